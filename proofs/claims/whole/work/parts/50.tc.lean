-- graph, condition, join, object of the class's reader
theorem TC_n {j r : Nat} {fi : Nat → Nat → Int} {x : Int} {σ : Tk} (h : 40 ≤ r) (hT : TC fi σ) : TC (am_u2 fi j r x) σ := by
  unfold TC
  rw [u2a (by omega), u2a (by omega), u2a (by omega), u2a (by omega)]
  exact hT
theorem Fr_m {r : Nat} {j : Nat} {fi : Nat → Nat → Int} {ai : Nat → Int → Int} {x : Int} (h : 40 ≤ r) : Fr r (r + 1) fi (am_u2 fi j r x) ai ai := ⟨fun _ _ _ _ q => u2a (by omega), fun _ _ => rfl, u2a (by omega)⟩
theorem Fr.at {lo hi : Nat} {fi fi' : Nat → Nat → Int} {ai ai' : Nat → Int → Int} (h : Fr lo hi fi fi' ai ai') (j b : Nat) (h1 : 40 ≤ b) (h2 : b < lo ∨ hi ≤ b) : fi' j b = fi j b := h.1 j b (by omega) (by omega) h2
set_option maxHeartbeats 400000 in
set_option maxRecDepth 100000 in
theorem c_takeGraph (d L B1 B2 : Nat) (fi : Nat → Nat → Int) (ai aj : Nat → Int → Int) (r : Nat) (σ : Tk) (hp : MapAt L B1 B2 r) (hL : LI fi ai) (hT : TC fi σ) : am_M am_prog (d + 4) m_Re_takeGraph [.inr (.inr 22), .inr (.inr r)] (HH L B1 B2 fi ai aj) (RQ L B1 B2 aj r (r + 1) fi ai (pGra (tx (fi 14 23) (ai 24)) σ) (fun fi' ai' x => fi' 49 r = x.1 ∧ TC fi' x.2 ∧ ai' r = ai r ∧ ∀ j, j ≠ 49 → fi' j r = fi j r)) := by
  obtain ⟨p0, p1, hC, hf3, hf4, hf5, hpa, hpb, hpc⟩ := id hp
  obtain ⟨t1, t2, t3, t4⟩ := id hT
  have hCp : True := trivial
  refine am_W.of rfl rfl ?_
  unfold pGra
  rw [← t4]
  refine am_W.cv 2 m_Re_nextIsNumberBelow rfl rfl rfl rfl (by and_intros <;> first | trivial | exact okI rfl rfl rfl | (refine okrI rfl rfl rfl rfl ?_ ?_ <;> (first | omega | (simp only [HS, FRS, CCS, am_R, hC, hf5, hCp] at *; omega))) | (refine okaI rfl rfl rfl rfl ?_ ?_ <;> (first | omega | (simp only [HS, FRS, CCS, am_R, hC, hf5, hCp] at *; omega))) | (first | omega | (simp only [HS, FRS, CCS, am_R, hC, hf5, hCp] at *; omega)) | (simp only [HS, FRS, CCS, hC, hf5, hCp])) (c_nextNum d L B1 B2 fi ai aj 10 (by and_intros <;> first | trivial | exact okI rfl rfl rfl | (refine okrI rfl rfl rfl rfl ?_ ?_ <;> (first | omega | (simp only [HS, FRS, CCS, am_R, hC, hf5, hCp] at *; omega))) | (refine okaI rfl rfl rfl rfl ?_ ?_ <;> (first | omega | (simp only [HS, FRS, CCS, am_R, hC, hf5, hCp] at *; omega))) | (first | omega | (simp only [HS, FRS, CCS, am_R, hC, hf5, hCp] at *; omega)) | (simp only [HS, FRS, CCS, hC, hf5, hCp])) hL) ?_
  rintro r1 h1 ⟨f2, a2, rfl, hF2, hL2, hm2⟩
  cases hpc : pNum (tx (fi 14 23) (ai 24)) 10 (fi 15 23) with
  | inl e =>
    rw [hpc] at hm2
    obtain ⟨rfl, he⟩ := hm2
    refine am_W.br rfl rfl (by and_intros <;> first | trivial | exact okI rfl rfl rfl | (refine okrI rfl rfl rfl rfl ?_ ?_ <;> (first | omega | (simp only [HS, FRS, CCS, am_R, hC, hf5, hCp] at *; omega))) | (refine okaI rfl rfl rfl rfl ?_ ?_ <;> (first | omega | (simp only [HS, FRS, CCS, am_R, hC, hf5, hCp] at *; omega))) | (first | omega | (simp only [HS, FRS, CCS, am_R, hC, hf5, hCp] at *; omega)) | (simp only [HS, FRS, CCS, hC, hf5, hCp])) (fun c3 => absurd rfl c3) (fun c3 => ?_)
    exact am_W.rt rfl rfl (by and_intros <;> first | trivial | exact okI rfl rfl rfl | (refine okrI rfl rfl rfl rfl ?_ ?_ <;> (first | omega | (simp only [HS, FRS, CCS, am_R, hC, hf5, hCp] at *; omega))) | (refine okaI rfl rfl rfl rfl ?_ ?_ <;> (first | omega | (simp only [HS, FRS, CCS, am_R, hC, hf5, hCp] at *; omega))) | (first | omega | (simp only [HS, FRS, CCS, am_R, hC, hf5, hCp] at *; omega)) | (simp only [HS, FRS, CCS, hC, hf5, hCp])) (RQ_e rfl (hF2.mo (Or.inl rfl)) hL2 he)
  | inr y =>
    rw [hpc] at hm2
    obtain ⟨rfl, hT2, m1, m2⟩ := hm2
    refine am_W.br rfl rfl (by and_intros <;> first | trivial | exact okI rfl rfl rfl | (refine okrI rfl rfl rfl rfl ?_ ?_ <;> (first | omega | (simp only [HS, FRS, CCS, am_R, hC, hf5, hCp] at *; omega))) | (refine okaI rfl rfl rfl rfl ?_ ?_ <;> (first | omega | (simp only [HS, FRS, CCS, am_R, hC, hf5, hCp] at *; omega))) | (first | omega | (simp only [HS, FRS, CCS, am_R, hC, hf5, hCp] at *; omega)) | (simp only [HS, FRS, CCS, hC, hf5, hCp])) (fun c3 => ?_) (fun c3 => absurd c3 (by decide))
    refine am_W.cv 3 m_To_next rfl rfl rfl rfl (by and_intros <;> first | trivial | exact okI rfl rfl rfl | (refine okrI rfl rfl rfl rfl ?_ ?_ <;> (first | omega | (simp only [HS, FRS, CCS, am_R, hC, hf5, hCp] at *; omega))) | (refine okaI rfl rfl rfl rfl ?_ ?_ <;> (first | omega | (simp only [HS, FRS, CCS, am_R, hC, hf5, hCp] at *; omega))) | (first | omega | (simp only [HS, FRS, CCS, am_R, hC, hf5, hCp] at *; omega)) | (simp only [HS, FRS, CCS, hC, hf5, hCp])) (c_nx (d + 1) L B1 B2 (am_u2 f2 49 r (f2 18 23)) a2 aj (LI_p p0 hL2)) ?_
    rintro r1 h1 ⟨rfl, f3, rfl, hF3, hL3, hT3, hf3⟩
    unfold TT at hT3
    have e15 : am_u2 f2 49 r (f2 18 23) 15 23 = y.2.2.2 := by rw [u2a (by omega)]; exact hT2.2.2.2
    have e24 : tx (am_u2 f2 49 r (f2 18 23) 14 23) (a2 24) = tx (fi 14 23) (ai 24) := by rw [u2a (by omega), hF2.LT (Or.inl rfl)]
    rw [e15, e24] at hT3
    refine am_W.rt rfl rfl (by and_intros <;> first | trivial | exact okI rfl rfl rfl | (refine okrI rfl rfl rfl rfl ?_ ?_ <;> (first | omega | (simp only [HS, FRS, CCS, am_R, hC, hf5, hCp] at *; omega))) | (refine okaI rfl rfl rfl rfl ?_ ?_ <;> (first | omega | (simp only [HS, FRS, CCS, am_R, hC, hf5, hCp] at *; omega))) | (first | omega | (simp only [HS, FRS, CCS, am_R, hC, hf5, hCp] at *; omega)) | (simp only [HS, FRS, CCS, hC, hf5, hCp])) (RQ_y (a := (y.2.2.1, lx (tx (fi 14 23) (ai 24)) y.2.2.2 0)) rfl ((hF2.mo (Or.inl rfl)).tr ((Fr_m p0).tr (hF3.mo (Or.inl rfl)))) hL3 ⟨?_, hT3, hF2.2.1 r (by omega), ?_⟩)
    · rw [hF3.at 49 r p0 (by omega), u2s]
      exact m1
    · intro j hj
      rw [hF3.at j r p0 (by omega), u2n hj, hF2.at j r p0 (by omega)]
theorem c_nxT (d L B1 B2 : Nat) (fi : Nat → Nat → Int) (ai aj : Nat → Int → Int) (t : Int → Int) (b : Int) (hL : LI fi ai) (et : tx (fi 14 23) (ai 24) = t) (eb : fi 15 23 = b) : am_M am_prog (d + 2) m_To_next [.inr (.inr 23)] (HH L B1 B2 fi ai aj) (fun w h' => w = none ∧ ∃ fi', h' = HH L B1 B2 fi' ai aj ∧ Fr 0 0 fi fi' ai ai ∧ LI fi' ai ∧ TC fi' (lx t b 0)) := by
  refine (c_nx d L B1 B2 fi ai aj hL).mono ?_
  rintro w h' ⟨h1, f, h2, h3, h4, h5, h6⟩
  subst et eb
  exact ⟨h1, f, h2, h3, h4, h5⟩
theorem c_isT (d L B1 B2 : Nat) (fi : Nat → Nat → Int) (ai aj : Nat → Int → Int) (t : Int → Int) (b q : Int) (hq : am_R q) (hL : LI fi ai) (et : tx (fi 14 23) (ai 24) = t) (eb : fi 15 23 = b) : am_M am_prog (d + 3) m_Re_nextIs [.inr (.inr 22), .inl q] (HH L B1 B2 fi ai aj) (RQ L B1 B2 aj 0 0 fi ai (pIs t q b) (fun fi' ai' σ => TC fi' σ ∧ (q = 1 → fi' 18 23 = σ.2.2.1))) := by
  refine (c_nextIs d L B1 B2 fi ai aj q hq hL).mono ?_
  subst et eb
  rintro w h' ⟨f, a, h2, h3, h4, h5⟩
  refine ⟨f, a, h2, h3, h4, ?_⟩
  unfold TT at h5
  cases hp : pIs (tx (fi 14 23) (ai 24)) q (fi 15 23) with
  | inl e =>
    rw [hp] at h5
    exact h5
  | inr y =>
    rw [hp] at h5
    refine ⟨h5.1, h5.2, fun hq1 => h5.2.2.2.1 ?_⟩
    unfold pIs at hp
    split at hp
    · next hq2 =>
      cases hp
      omega
    · cases hp
theorem c_numT (d L B1 B2 : Nat) (fi : Nat → Nat → Int) (ai aj : Nat → Int → Int) (t : Int → Int) (b m : Int) (hm : am_R m) (hL : LI fi ai) (et : tx (fi 14 23) (ai 24) = t) (eb : fi 15 23 = b) : am_M am_prog (d + 3) m_Re_nextIsNumberBelow [.inr (.inr 22), .inl m] (HH L B1 B2 fi ai aj) (RQ L B1 B2 aj 0 0 fi ai (pNum t m b) (fun fi' _ σ => TC fi' σ ∧ fi' 18 23 = σ.2.2.1 ∧ σ.2.2.1 < m)) := by
  subst et eb
  exact c_nextNum d L B1 B2 fi ai aj m hm hL
def rC (t : Int → Int) (i : Int) (u : Tk) : Int ⊕ (JT × Tk) := if i = 1 then .inr ((1853189228, u.2.2.1, 0), lx t u.2.2.2 0) else if (lx t u.2.2.2 0).2.1 = 61 ∨ (lx t u.2.2.2 0).2.1 = 60 ∨ (lx t u.2.2.2 0).2.1 = 62 then pb (pIs t 1 (lx t u.2.2.2 0).2.2.2) fun w => .inr (((lx t u.2.2.2 0).2.1, u.2.2.1, w.2.2.1), lx t w.2.2.2 0) else .inl (-10 - (lx t u.2.2.2 0).1)
def KC (r : Nat) (fi : Nat → Nat → Int) (ai : Nat → Int → Int) : (Nat → Nat → Int) → (Nat → Int → Int) → JT × Tk → Prop := fun fi' ai' x => fi' 46 r = x.1.1 ∧ fi' 47 r = x.1.2.1 ∧ (x.1.1 ≠ 1853189228 → fi' 48 r = x.1.2.2) ∧ TC fi' x.2 ∧ ai' r = ai r ∧ ∀ j, j ≠ 46 → j ≠ 47 → j ≠ 48 → fi' j r = fi j r
set_option maxHeartbeats 400000 in
set_option maxRecDepth 100000 in
theorem c_takeCondition (d L B1 B2 : Nat) (fi : Nat → Nat → Int) (ai aj : Nat → Int → Int) (r : Nat) (m : Int) (σ : Tk) (hp : MapAt L B1 B2 r) (hm : am_R m) (hL : LI fi ai) (hT : TC fi σ) : am_M am_prog (d + 4) m_Re_takeCondition [.inr (.inr 22), .inr (.inr r), .inl m] (HH L B1 B2 fi ai aj) (RQ L B1 B2 aj r (r + 1) fi ai (pCond (tx (fi 14 23) (ai 24)) m σ) (KC r fi ai)) := by
  obtain ⟨p0, p1, hC, hf3, hf4, hf5, hpa, hpb, hpc⟩ := id hp
  have hCp : True := trivial
  have t4 := hT.2.2.2
  generalize et : tx (fi 14 23) (ai 24) = t
  refine am_W.of rfl rfl ?_
  have hmid : ∀ (i : Int) (f1 : Nat → Nat → Int) (z : Tk) (R : Int ⊕ (JT × Tk)), (i = 0 ∨ i = 1) → Fr 0 0 fi f1 ai ai → LI f1 ai → TC f1 z → R = (if z.2.1 = 36 then pb (pNum t m z.2.2.2) (rC t i) else .inl (-10 - z.1)) → am_W (am_ev am_prog (d + 3)) T_Re_takeCondition (RQ L B1 B2 aj r (r + 1) fi ai R (KC r fi ai)) (36, [some (.inr (.inr 22)), some (.inr (.inr r)), some (.inl m), some (.inl i)], [], HH L B1 B2 f1 ai aj) := by
    intro i f1 z R hi hF1 hL1 hT1 hR
    have ll := hL1.2.2.2
    obtain ⟨t1, t2, t3, t4⟩ := id hT1
    refine am_W.br rfl rfl (by and_intros <;> first | trivial | exact okI rfl rfl rfl | (refine okrI rfl rfl rfl rfl ?_ ?_ <;> (first | omega | (simp only [HS, FRS, CCS, am_R, hC, hf5, hCp] at *; omega))) | (refine okaI rfl rfl rfl rfl ?_ ?_ <;> (first | omega | (simp only [HS, FRS, CCS, am_R, hC, hf5, hCp] at *; omega))) | (first | omega | (simp only [HS, FRS, CCS, am_R, hC, hf5, hCp] at *; omega)) | (simp only [HS, FRS, CCS, hC, hf5, hCp])) (fun c1 => ?_) (fun c1 => ?_)
    · simp only [HS, FRS, hC, hf5, hCp] at c1
      rw [if_pos (by omega)] at hR
      refine am_W.cv 2 m_Re_nextIsNumberBelow rfl rfl rfl rfl (by and_intros <;> first | trivial | exact okI rfl rfl rfl | (refine okrI rfl rfl rfl rfl ?_ ?_ <;> (first | omega | (simp only [HS, FRS, CCS, am_R, hC, hf5, hCp] at *; omega))) | (refine okaI rfl rfl rfl rfl ?_ ?_ <;> (first | omega | (simp only [HS, FRS, CCS, am_R, hC, hf5, hCp] at *; omega))) | (first | omega | (simp only [HS, FRS, CCS, am_R, hC, hf5, hCp] at *; omega)) | (simp only [HS, FRS, CCS, hC, hf5, hCp])) (c_numT d L B1 B2 f1 ai aj t z.2.2.2 m hm hL1 (by rw [hF1.LT (Or.inl rfl)]; exact et) t4) ?_
      rintro r1 h1 ⟨f2, a2, rfl, hF2, hL2, hm2⟩
      cases hpc : pNum t m z.2.2.2 with
      | inl e =>
        rw [hpc] at hm2 hR
        obtain ⟨rfl, he⟩ := hm2
        refine am_W.br rfl rfl (by and_intros <;> first | trivial | exact okI rfl rfl rfl | (refine okrI rfl rfl rfl rfl ?_ ?_ <;> (first | omega | (simp only [HS, FRS, CCS, am_R, hC, hf5, hCp] at *; omega))) | (refine okaI rfl rfl rfl rfl ?_ ?_ <;> (first | omega | (simp only [HS, FRS, CCS, am_R, hC, hf5, hCp] at *; omega))) | (first | omega | (simp only [HS, FRS, CCS, am_R, hC, hf5, hCp] at *; omega)) | (simp only [HS, FRS, CCS, hC, hf5, hCp])) (fun c3 => absurd rfl c3) (fun c3 => ?_)
        exact am_W.rt rfl rfl (by and_intros <;> first | trivial | exact okI rfl rfl rfl | (refine okrI rfl rfl rfl rfl ?_ ?_ <;> (first | omega | (simp only [HS, FRS, CCS, am_R, hC, hf5, hCp] at *; omega))) | (refine okaI rfl rfl rfl rfl ?_ ?_ <;> (first | omega | (simp only [HS, FRS, CCS, am_R, hC, hf5, hCp] at *; omega))) | (first | omega | (simp only [HS, FRS, CCS, am_R, hC, hf5, hCp] at *; omega)) | (simp only [HS, FRS, CCS, hC, hf5, hCp])) (RQ_e hR ((hF1.tr hF2).mo (Or.inl rfl)) hL2 he)
      | inr u =>
        rw [hpc, pb_r] at hR
        rw [hpc] at hm2
        obtain ⟨rfl, hT2, m1, m2⟩ := hm2
        have hFa := hF1.tr hF2
        have hfin : ∀ (f3 : Nat → Nat → Int) (b' : Int) (x : JT), Fr r (r + 1) fi f3 ai a2 → LI f3 a2 → f3 15 23 = b' → R = .inr (x, lx t b' 0) → f3 46 r = x.1 → f3 47 r = x.2.1 → (x.1 ≠ 1853189228 → f3 48 r = x.2.2) → (∀ j, j ≠ 46 → j ≠ 47 → j ≠ 48 → f3 j r = fi j r) → am_W (am_ev am_prog (d + 3)) T_Re_takeCondition (RQ L B1 B2 aj r (r + 1) fi ai R (KC r fi ai)) (178, [some (.inr (.inr 22)), some (.inr (.inr r)), some (.inl m), some (.inl i)], [], HH L B1 B2 f3 a2 aj) := by
          intro f3 b' x hF3 hL3 hb hR3 x1 x2 x3 x4
          refine am_W.cv 3 m_To_next rfl rfl rfl rfl (by and_intros <;> first | trivial | exact okI rfl rfl rfl | (refine okrI rfl rfl rfl rfl ?_ ?_ <;> (first | omega | (simp only [HS, FRS, CCS, am_R, hC, hf5, hCp] at *; omega))) | (refine okaI rfl rfl rfl rfl ?_ ?_ <;> (first | omega | (simp only [HS, FRS, CCS, am_R, hC, hf5, hCp] at *; omega))) | (first | omega | (simp only [HS, FRS, CCS, am_R, hC, hf5, hCp] at *; omega)) | (simp only [HS, FRS, CCS, hC, hf5, hCp])) (c_nxT (d + 1) L B1 B2 f3 a2 aj t b' hL3 (by rw [hF3.LT (Or.inr p0)]; exact et) hb) ?_
          rintro r1 h1 ⟨rfl, f4, rfl, hF4, hL4, hT4⟩
          refine am_W.rt rfl rfl (by and_intros <;> first | trivial | exact okI rfl rfl rfl | (refine okrI rfl rfl rfl rfl ?_ ?_ <;> (first | omega | (simp only [HS, FRS, CCS, am_R, hC, hf5, hCp] at *; omega))) | (refine okaI rfl rfl rfl rfl ?_ ?_ <;> (first | omega | (simp only [HS, FRS, CCS, am_R, hC, hf5, hCp] at *; omega))) | (first | omega | (simp only [HS, FRS, CCS, am_R, hC, hf5, hCp] at *; omega)) | (simp only [HS, FRS, CCS, hC, hf5, hCp])) (RQ_y hR3 (hF3.tr (hF4.mo (Or.inl rfl))) hL4 ⟨?_, ?_, ?_, hT4, hFa.2.1 r (by omega), ?_⟩)
          · rw [hF4.at 46 r p0 (by omega)]
            exact x1
          · rw [hF4.at 47 r p0 (by omega)]
            exact x2
          · intro q
            rw [hF4.at 48 r p0 (by omega)]
            exact x3 q
          · intro j j1 j2 j3
            rw [hF4.at j r p0 (by omega)]
            exact x4 j j1 j2 j3
        refine am_W.br rfl rfl (by and_intros <;> first | trivial | exact okI rfl rfl rfl | (refine okrI rfl rfl rfl rfl ?_ ?_ <;> (first | omega | (simp only [HS, FRS, CCS, am_R, hC, hf5, hCp] at *; omega))) | (refine okaI rfl rfl rfl rfl ?_ ?_ <;> (first | omega | (simp only [HS, FRS, CCS, am_R, hC, hf5, hCp] at *; omega))) | (first | omega | (simp only [HS, FRS, CCS, am_R, hC, hf5, hCp] at *; omega)) | (simp only [HS, FRS, CCS, hC, hf5, hCp])) (fun c3 => ?_) (fun c3 => absurd c3 (by decide))
        have g1 : LI (am_u2 (am_u2 f2 46 r 1853189228) 47 r (f2 18 23)) a2 := LI_p p0 (LI_p p0 hL2)
        have g2 : Fr r (r + 1) fi (am_u2 (am_u2 f2 46 r 1853189228) 47 r (f2 18 23)) ai a2 := (hFa.mo (Or.inl rfl)).tr ((Fr_m p0).tr (Fr_m p0))
        have g3 : am_u2 (am_u2 f2 46 r 1853189228) 47 r (f2 18 23) 15 23 = u.2.2.2 := by
          rw [u2a (by omega), u2a (by omega)]
          exact hT2.2.2.2
        have g4 : am_u2 (am_u2 f2 46 r 1853189228) 47 r (f2 18 23) 46 r = 1853189228 := by rw [u2n (by decide), u2s]
        have g5 : am_u2 (am_u2 f2 46 r 1853189228) 47 r (f2 18 23) 47 r = u.2.2.1 := by rw [u2s]; exact m1
        have g6 : ∀ j, j ≠ 46 → j ≠ 47 → am_u2 (am_u2 f2 46 r 1853189228) 47 r (f2 18 23) j r = fi j r := fun j j1 j2 => by rw [u2n j2, u2n j1, hFa.at j r p0 (by omega)]
        refine am_W.gp 87 rfl (by and_intros <;> first | trivial | exact okI rfl rfl rfl | (refine okrI rfl rfl rfl rfl ?_ ?_ <;> (first | omega | (simp only [HS, FRS, CCS, am_R, hC, hf5, hCp] at *; omega))) | (refine okaI rfl rfl rfl rfl ?_ ?_ <;> (first | omega | (simp only [HS, FRS, CCS, am_R, hC, hf5, hCp] at *; omega))) | (first | omega | (simp only [HS, FRS, CCS, am_R, hC, hf5, hCp] at *; omega)) | (simp only [HS, FRS, CCS, hC, hf5, hCp])) ?_
        simp only [HS, FRS, hC, hf5, hCp]
        rw [show am_u2 f2 46 r 1853189228 18 23 = f2 18 23 from u2n (by decide)]
        generalize am_u2 (am_u2 f2 46 r 1853189228) 47 r (f2 18 23) = f3 at *
        refine am_W.br rfl rfl (by and_intros <;> first | trivial | exact okI rfl rfl rfl | (refine okrI rfl rfl rfl rfl ?_ ?_ <;> (first | omega | (simp only [HS, FRS, CCS, am_R, hC, hf5, hCp] at *; omega))) | (refine okaI rfl rfl rfl rfl ?_ ?_ <;> (first | omega | (simp only [HS, FRS, CCS, am_R, hC, hf5, hCp] at *; omega))) | (first | omega | (simp only [HS, FRS, CCS, am_R, hC, hf5, hCp] at *; omega)) | (simp only [HS, FRS, CCS, hC, hf5, hCp])) (fun c4 => ?_) (fun c4 => ?_)
        · rw [rC, if_pos (by omega)] at hR
          exact hfin f3 u.2.2.2 (1853189228, u.2.2.1, 0) g2 g1 g3 hR g4 g5 (fun q => absurd rfl q) (fun j j1 j2 j3 => g6 j j1 j2)
        · rw [rC, if_neg (by omega)] at hR
          refine am_W.cv 3 m_To_next rfl rfl rfl rfl (by and_intros <;> first | trivial | exact okI rfl rfl rfl | (refine okrI rfl rfl rfl rfl ?_ ?_ <;> (first | omega | (simp only [HS, FRS, CCS, am_R, hC, hf5, hCp] at *; omega))) | (refine okaI rfl rfl rfl rfl ?_ ?_ <;> (first | omega | (simp only [HS, FRS, CCS, am_R, hC, hf5, hCp] at *; omega))) | (first | omega | (simp only [HS, FRS, CCS, am_R, hC, hf5, hCp] at *; omega)) | (simp only [HS, FRS, CCS, hC, hf5, hCp])) (c_nxT (d + 1) L B1 B2 f3 a2 aj t u.2.2.2 g1 (by rw [g2.LT (Or.inr p0)]; exact et) g3) ?_
          rintro r1 h1 ⟨rfl, f4, rfl, hF4, hL4, hT4⟩
          have l4 := hL4.2.2.2
          obtain ⟨y1, y2, y3, y4⟩ := id hT4
          generalize lx t u.2.2.2 0 = y at *
          have hok : (y.2.1 = 61 ∨ y.2.1 = 60 ∨ y.2.1 = 62) → am_W (am_ev am_prog (d + 3)) T_Re_takeCondition (RQ L B1 B2 aj r (r + 1) fi ai R (KC r fi ai)) (146, [some (.inr (.inr 22)), some (.inr (.inr r)), some (.inl m), some (.inl i)], [], HH L B1 B2 f4 a2 aj) := by
            intro hy
            rw [if_pos hy] at hR
            have k1 : LI (am_u2 f4 46 r (f4 17 23)) a2 := LI_p p0 hL4
            have k2 : Fr r (r + 1) fi (am_u2 f4 46 r (f4 17 23)) ai a2 := g2.tr ((hF4.mo (Or.inl rfl)).tr (Fr_m p0))
            refine am_W.cv 2 m_Re_nextIs rfl rfl rfl rfl (by and_intros <;> first | trivial | exact okI rfl rfl rfl | (refine okrI rfl rfl rfl rfl ?_ ?_ <;> (first | omega | (simp only [HS, FRS, CCS, am_R, hC, hf5, hCp] at *; omega))) | (refine okaI rfl rfl rfl rfl ?_ ?_ <;> (first | omega | (simp only [HS, FRS, CCS, am_R, hC, hf5, hCp] at *; omega))) | (first | omega | (simp only [HS, FRS, CCS, am_R, hC, hf5, hCp] at *; omega)) | (simp only [HS, FRS, CCS, hC, hf5, hCp])) (c_isT d L B1 B2 (am_u2 f4 46 r (f4 17 23)) a2 aj t y.2.2.2 1 (by and_intros <;> first | trivial | exact okI rfl rfl rfl | (refine okrI rfl rfl rfl rfl ?_ ?_ <;> (first | omega | (simp only [HS, FRS, CCS, am_R, hC, hf5, hCp] at *; omega))) | (refine okaI rfl rfl rfl rfl ?_ ?_ <;> (first | omega | (simp only [HS, FRS, CCS, am_R, hC, hf5, hCp] at *; omega))) | (first | omega | (simp only [HS, FRS, CCS, am_R, hC, hf5, hCp] at *; omega)) | (simp only [HS, FRS, CCS, hC, hf5, hCp])) k1 (by rw [k2.LT (Or.inr p0)]; exact et) (by rw [u2a (by omega)]; exact y4)) ?_
            rintro r1 h1 ⟨f5, a5, rfl, hF5, hL5, hm5⟩
            cases hpi : pIs t 1 y.2.2.2 with
            | inl e =>
              rw [hpi] at hm5 hR
              obtain ⟨rfl, he⟩ := hm5
              refine am_W.br rfl rfl (by and_intros <;> first | trivial | exact okI rfl rfl rfl | (refine okrI rfl rfl rfl rfl ?_ ?_ <;> (first | omega | (simp only [HS, FRS, CCS, am_R, hC, hf5, hCp] at *; omega))) | (refine okaI rfl rfl rfl rfl ?_ ?_ <;> (first | omega | (simp only [HS, FRS, CCS, am_R, hC, hf5, hCp] at *; omega))) | (first | omega | (simp only [HS, FRS, CCS, am_R, hC, hf5, hCp] at *; omega)) | (simp only [HS, FRS, CCS, hC, hf5, hCp])) (fun c3 => absurd rfl c3) (fun c3 => ?_)
              exact am_W.rt rfl rfl (by and_intros <;> first | trivial | exact okI rfl rfl rfl | (refine okrI rfl rfl rfl rfl ?_ ?_ <;> (first | omega | (simp only [HS, FRS, CCS, am_R, hC, hf5, hCp] at *; omega))) | (refine okaI rfl rfl rfl rfl ?_ ?_ <;> (first | omega | (simp only [HS, FRS, CCS, am_R, hC, hf5, hCp] at *; omega))) | (first | omega | (simp only [HS, FRS, CCS, am_R, hC, hf5, hCp] at *; omega)) | (simp only [HS, FRS, CCS, hC, hf5, hCp])) (RQ_e hR (k2.tr (hF5.mo (Or.inl rfl))) hL5 he)
            | inr w =>
              rw [hpi, pb_r] at hR
              rw [hpi] at hm5
              obtain ⟨rfl, hT5, h18⟩ := hm5
              have ea : a5 = a2 := by
                funext c
                exact hF5.2.1 c (by omega)
              subst ea
              refine am_W.br rfl rfl (by and_intros <;> first | trivial | exact okI rfl rfl rfl | (refine okrI rfl rfl rfl rfl ?_ ?_ <;> (first | omega | (simp only [HS, FRS, CCS, am_R, hC, hf5, hCp] at *; omega))) | (refine okaI rfl rfl rfl rfl ?_ ?_ <;> (first | omega | (simp only [HS, FRS, CCS, am_R, hC, hf5, hCp] at *; omega))) | (first | omega | (simp only [HS, FRS, CCS, am_R, hC, hf5, hCp] at *; omega)) | (simp only [HS, FRS, CCS, hC, hf5, hCp])) (fun c3 => ?_) (fun c3 => absurd c3 (by decide))
              refine am_W.gp 178 rfl (by and_intros <;> first | trivial | exact okI rfl rfl rfl | (refine okrI rfl rfl rfl rfl ?_ ?_ <;> (first | omega | (simp only [HS, FRS, CCS, am_R, hC, hf5, hCp] at *; omega))) | (refine okaI rfl rfl rfl rfl ?_ ?_ <;> (first | omega | (simp only [HS, FRS, CCS, am_R, hC, hf5, hCp] at *; omega))) | (first | omega | (simp only [HS, FRS, CCS, am_R, hC, hf5, hCp] at *; omega)) | (simp only [HS, FRS, CCS, hC, hf5, hCp])) ?_
              simp only [HS, FRS, hC, hf5, hCp]
              refine hfin (am_u2 f5 48 r (f5 18 23)) w.2.2.2 (y.2.1, u.2.2.1, w.2.2.1) (k2.tr ((hF5.mo (Or.inl rfl)).tr (Fr_m p0))) (LI_p p0 hL5) (by rw [u2a (by omega)]; exact hT5.2.2.2) hR ?_ ?_ ?_ ?_
              · rw [u2n (by decide), hF5.at 46 r p0 (by omega), u2s]
                exact y2
              · rw [u2n (by decide), hF5.at 47 r p0 (by omega), u2n (by decide), hF4.at 47 r p0 (by omega)]
                exact g5
              · intro _
                rw [u2s]
                exact h18 rfl
              · intro j j1 j2 j3
                rw [u2n j3, hF5.at j r p0 (by omega), u2n j1, hF4.at j r p0 (by omega)]
                exact g6 j j1 j2
          refine am_W.br rfl rfl (by and_intros <;> first | trivial | exact okI rfl rfl rfl | (refine okrI rfl rfl rfl rfl ?_ ?_ <;> (first | omega | (simp only [HS, FRS, CCS, am_R, hC, hf5, hCp] at *; omega))) | (refine okaI rfl rfl rfl rfl ?_ ?_ <;> (first | omega | (simp only [HS, FRS, CCS, am_R, hC, hf5, hCp] at *; omega))) | (first | omega | (simp only [HS, FRS, CCS, am_R, hC, hf5, hCp] at *; omega)) | (simp only [HS, FRS, CCS, hC, hf5, hCp])) (fun c5 => hok (by simp only [HS, FRS, hC, hf5, hCp] at c5; omega)) (fun c5 => ?_)
          refine am_W.br rfl rfl (by and_intros <;> first | trivial | exact okI rfl rfl rfl | (refine okrI rfl rfl rfl rfl ?_ ?_ <;> (first | omega | (simp only [HS, FRS, CCS, am_R, hC, hf5, hCp] at *; omega))) | (refine okaI rfl rfl rfl rfl ?_ ?_ <;> (first | omega | (simp only [HS, FRS, CCS, am_R, hC, hf5, hCp] at *; omega))) | (first | omega | (simp only [HS, FRS, CCS, am_R, hC, hf5, hCp] at *; omega)) | (simp only [HS, FRS, CCS, hC, hf5, hCp])) (fun c6 => hok (by simp only [HS, FRS, hC, hf5, hCp] at c6; omega)) (fun c6 => ?_)
          refine am_W.br rfl rfl (by and_intros <;> first | trivial | exact okI rfl rfl rfl | (refine okrI rfl rfl rfl rfl ?_ ?_ <;> (first | omega | (simp only [HS, FRS, CCS, am_R, hC, hf5, hCp] at *; omega))) | (refine okaI rfl rfl rfl rfl ?_ ?_ <;> (first | omega | (simp only [HS, FRS, CCS, am_R, hC, hf5, hCp] at *; omega))) | (first | omega | (simp only [HS, FRS, CCS, am_R, hC, hf5, hCp] at *; omega)) | (simp only [HS, FRS, CCS, hC, hf5, hCp])) (fun c7 => hok (by simp only [HS, FRS, hC, hf5, hCp] at c7; omega)) (fun c7 => ?_)
          simp only [HS, FRS, hC, hf5, hCp] at c5 c6 c7
          rw [if_neg (by omega)] at hR
          refine am_W.cv 2 m_Re_wrong rfl rfl rfl rfl (by and_intros <;> first | trivial | exact okI rfl rfl rfl | (refine okrI rfl rfl rfl rfl ?_ ?_ <;> (first | omega | (simp only [HS, FRS, CCS, am_R, hC, hf5, hCp] at *; omega))) | (refine okaI rfl rfl rfl rfl ?_ ?_ <;> (first | omega | (simp only [HS, FRS, CCS, am_R, hC, hf5, hCp] at *; omega))) | (first | omega | (simp only [HS, FRS, CCS, am_R, hC, hf5, hCp] at *; omega)) | (simp only [HS, FRS, CCS, hC, hf5, hCp])) (c_wrong (d + 2) L B1 B2 f4 a2 aj (f4 16 23)) ?_
          rintro r1 h1 ⟨rfl, rfl⟩
          refine am_W.rt rfl rfl (by and_intros <;> first | trivial | exact okI rfl rfl rfl | (refine okrI rfl rfl rfl rfl ?_ ?_ <;> (first | omega | (simp only [HS, FRS, CCS, am_R, hC, hf5, hCp] at *; omega))) | (refine okaI rfl rfl rfl rfl ?_ ?_ <;> (first | omega | (simp only [HS, FRS, CCS, am_R, hC, hf5, hCp] at *; omega))) | (first | omega | (simp only [HS, FRS, CCS, am_R, hC, hf5, hCp] at *; omega)) | (simp only [HS, FRS, CCS, hC, hf5, hCp])) (RQ_f ?_ (g2.tr (hF4.mo (Or.inl rfl))) hL4)
          rw [hR, y1]
    · simp only [HS, FRS, hC, hf5, hCp] at c1
      rw [if_neg (by omega)] at hR
      refine am_W.cv 2 m_Re_wrong rfl rfl rfl rfl (by and_intros <;> first | trivial | exact okI rfl rfl rfl | (refine okrI rfl rfl rfl rfl ?_ ?_ <;> (first | omega | (simp only [HS, FRS, CCS, am_R, hC, hf5, hCp] at *; omega))) | (refine okaI rfl rfl rfl rfl ?_ ?_ <;> (first | omega | (simp only [HS, FRS, CCS, am_R, hC, hf5, hCp] at *; omega))) | (first | omega | (simp only [HS, FRS, CCS, am_R, hC, hf5, hCp] at *; omega)) | (simp only [HS, FRS, CCS, hC, hf5, hCp])) (c_wrong (d + 2) L B1 B2 f1 ai aj (f1 16 23)) ?_
      rintro r1 h1 ⟨rfl, rfl⟩
      refine am_W.rt rfl rfl (by and_intros <;> first | trivial | exact okI rfl rfl rfl | (refine okrI rfl rfl rfl rfl ?_ ?_ <;> (first | omega | (simp only [HS, FRS, CCS, am_R, hC, hf5, hCp] at *; omega))) | (refine okaI rfl rfl rfl rfl ?_ ?_ <;> (first | omega | (simp only [HS, FRS, CCS, am_R, hC, hf5, hCp] at *; omega))) | (first | omega | (simp only [HS, FRS, CCS, am_R, hC, hf5, hCp] at *; omega)) | (simp only [HS, FRS, CCS, hC, hf5, hCp])) (RQ_f ?_ (hF1.mo (Or.inl rfl)) hL1)
      rw [hR, t1]
  refine am_W.cv 3 m_To_next rfl rfl rfl rfl (by and_intros <;> first | trivial | exact okI rfl rfl rfl | (refine okrI rfl rfl rfl rfl ?_ ?_ <;> (first | omega | (simp only [HS, FRS, CCS, am_R, hC, hf5, hCp] at *; omega))) | (refine okaI rfl rfl rfl rfl ?_ ?_ <;> (first | omega | (simp only [HS, FRS, CCS, am_R, hC, hf5, hCp] at *; omega))) | (first | omega | (simp only [HS, FRS, CCS, am_R, hC, hf5, hCp] at *; omega)) | (simp only [HS, FRS, CCS, hC, hf5, hCp])) (c_nxT (d + 1) L B1 B2 fi ai aj t σ.2.2.2 hL et t4) ?_
  rintro r1 h1 ⟨rfl, f1, rfl, hF1, hL1, hT1⟩
  have l1 := hL1.2.2.2
  obtain ⟨y1, y2, y3, y4⟩ := id hT1
  unfold pCond
  generalize lx t σ.2.2.2 0 = y at *
  refine am_W.br rfl rfl (by and_intros <;> first | trivial | exact okI rfl rfl rfl | (refine okrI rfl rfl rfl rfl ?_ ?_ <;> (first | omega | (simp only [HS, FRS, CCS, am_R, hC, hf5, hCp] at *; omega))) | (refine okaI rfl rfl rfl rfl ?_ ?_ <;> (first | omega | (simp only [HS, FRS, CCS, am_R, hC, hf5, hCp] at *; omega))) | (first | omega | (simp only [HS, FRS, CCS, am_R, hC, hf5, hCp] at *; omega)) | (simp only [HS, FRS, CCS, hC, hf5, hCp])) (fun c1 => ?_) (fun c1 => ?_)
  · simp only [HS, FRS, hC, hf5, hCp] at c1
    refine am_W.br rfl rfl (by and_intros <;> first | trivial | exact okI rfl rfl rfl | (refine okrI rfl rfl rfl rfl ?_ ?_ <;> (first | omega | (simp only [HS, FRS, CCS, am_R, hC, hf5, hCp] at *; omega))) | (refine okaI rfl rfl rfl rfl ?_ ?_ <;> (first | omega | (simp only [HS, FRS, CCS, am_R, hC, hf5, hCp] at *; omega))) | (first | omega | (simp only [HS, FRS, CCS, am_R, hC, hf5, hCp] at *; omega)) | (simp only [HS, FRS, CCS, hC, hf5, hCp])) (fun c2 => ?_) (fun c2 => absurd rfl c2)
    refine hmid 0 f1 y _ (Or.inl rfl) hF1 hL1 hT1 ?_
    rw [if_neg (by omega)]
    rfl
  · simp only [HS, FRS, hC, hf5, hCp] at c1
    refine am_W.br rfl rfl (by and_intros <;> first | trivial | exact okI rfl rfl rfl | (refine okrI rfl rfl rfl rfl ?_ ?_ <;> (first | omega | (simp only [HS, FRS, CCS, am_R, hC, hf5, hCp] at *; omega))) | (refine okaI rfl rfl rfl rfl ?_ ?_ <;> (first | omega | (simp only [HS, FRS, CCS, am_R, hC, hf5, hCp] at *; omega))) | (first | omega | (simp only [HS, FRS, CCS, am_R, hC, hf5, hCp] at *; omega)) | (simp only [HS, FRS, CCS, hC, hf5, hCp])) (fun c2 => absurd c2 (by decide)) (fun c2 => ?_)
    refine am_W.cv 3 m_To_next rfl rfl rfl rfl (by and_intros <;> first | trivial | exact okI rfl rfl rfl | (refine okrI rfl rfl rfl rfl ?_ ?_ <;> (first | omega | (simp only [HS, FRS, CCS, am_R, hC, hf5, hCp] at *; omega))) | (refine okaI rfl rfl rfl rfl ?_ ?_ <;> (first | omega | (simp only [HS, FRS, CCS, am_R, hC, hf5, hCp] at *; omega))) | (first | omega | (simp only [HS, FRS, CCS, am_R, hC, hf5, hCp] at *; omega)) | (simp only [HS, FRS, CCS, hC, hf5, hCp])) (c_nxT (d + 1) L B1 B2 f1 ai aj t y.2.2.2 hL1 (by rw [hF1.LT (Or.inl rfl)]; exact et) y4) ?_
    rintro r1 h1 ⟨rfl, f2, rfl, hF2, hL2, hT2⟩
    refine hmid 1 f2 _ _ (Or.inr rfl) (hF1.tr hF2) hL2 hT2 ?_
    rw [if_pos (by omega)]
    rfl
