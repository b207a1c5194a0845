-- a mapping, and the whole text, by the class's reader
def RepM (fi : Nat → Nat → Int) (ai : Nat → Int → Int) (r : Nat) (x : MT) : Prop := fi 39 r = x.1 ∧ RepP fi ai (r + 1) x.2.1 ∧ RepP fi ai (r + 3) x.2.2.1 ∧ RepP fi ai (r + 5) x.2.2.2.1 ∧ fi 43 r = x.2.2.2.2.1.1 ∧ (x.2.2.2.2.1.1 ≠ -1 → fi 44 r = x.2.2.2.2.1.2.1 ∧ fi 45 r = x.2.2.2.2.1.2.2) ∧ fi 46 r = x.2.2.2.2.2.1.1 ∧ (x.2.2.2.2.2.1.1 ≠ -1 → fi 47 r = x.2.2.2.2.2.1.2.1) ∧ (x.2.2.2.2.2.1.1 ≠ -1 → x.2.2.2.2.2.1.1 ≠ 1853189228 → fi 48 r = x.2.2.2.2.2.1.2.2) ∧ fi 49 r = x.2.2.2.2.2.2
theorem RepM.fr {fi fi' : Nat → Nat → Int} {ai ai' : Nat → Int → Int} {r : Nat} {x : MT} (h : RepM fi ai r x) (h1 : ∀ j b, r ≤ b → b < r + 7 → fi' j b = fi j b) (h2 : ∀ b, r ≤ b → b < r + 7 → ai' b = ai b) : RepM fi' ai' r x := by
  obtain ⟨a1, a2, a3, a4, a5, a6, a7, a8, a9, a10⟩ := h
  refine ⟨(h1 39 r (by omega) (by omega)).trans a1, a2.fr (fun j => h1 j _ (by omega) (by omega)) (h2 _ (by omega) (by omega)), a3.fr (fun j => h1 j _ (by omega) (by omega)) (h2 _ (by omega) (by omega)), a4.fr (fun j => h1 j _ (by omega) (by omega)) (h2 _ (by omega) (by omega)), ?_, ?_, ?_, ?_, ?_, ?_⟩
  · rw [h1 43 r (by omega) (by omega)]; exact a5
  · rw [h1 44 r (by omega) (by omega), h1 45 r (by omega) (by omega)]; exact a6
  · rw [h1 46 r (by omega) (by omega)]; exact a7
  · rw [h1 47 r (by omega) (by omega)]; exact a8
  · rw [h1 48 r (by omega) (by omega)]; exact a9
  · rw [h1 49 r (by omega) (by omega)]; exact a10
set_option maxHeartbeats 400000 in
set_option maxRecDepth 100000 in
theorem c_Ma_clear (d L B1 B2 : Nat) (fi : Nat → Nat → Int) (ai aj : Nat → Int → Int) (r : Nat) (hp : MapAt L B1 B2 r) : am_M am_prog (d + 1) m_Ma_clear [.inr (.inr r)] (HH L B1 B2 fi ai aj) (fun w h' => w = none ∧ h' = HH L B1 B2 (am_u2 (am_u2 (am_u2 fi 43 r (-1)) 46 r (-1)) 49 r (-1)) ai aj) := by
  obtain ⟨p0, p1, hC, hf3, hf4, hf5, hpa, hpb, hpc⟩ := id hp
  have hCB : True := trivial
  have hCl : True := trivial
  have hfl : True := trivial
  refine am_W.of rfl rfl ?_
  exact am_W.rt rfl rfl (by and_intros <;> first | trivial | exact okI rfl rfl rfl | (refine okrI rfl rfl rfl rfl ?_ ?_ <;> (first | omega | (simp only [HS, FRS, CCS, am_R, hC, hf3, hf4, hf5, hCB, hCl, hfl] at *; omega))) | (refine okaI rfl rfl rfl rfl ?_ ?_ <;> (first | omega | (simp only [HS, FRS, CCS, am_R, hC, hf3, hf4, hf5, hCB, hCl, hfl] at *; omega))) | (first | omega | (simp only [HS, FRS, CCS, am_R, hC, hf3, hf4, hf5, hCB, hCl, hfl] at *; omega)) | (simp only [HS, FRS, CCS, hC, hf3, hf4, hf5, hCB, hCl, hfl])) ⟨rfl, rfl⟩
set_option maxHeartbeats 400000 in
set_option maxRecDepth 100000 in
theorem c_takeMapping (d L B1 B2 : Nat) (fi : Nat → Nat → Int) (ai aj : Nat → Int → Int) (r : Nat) (b : Int) (hp : MapAt L B1 B2 r) (hL : LI fi ai) (hI : DI (DD fi ai)) (hb : fi 15 23 = b) : am_M am_prog (d + 6) m_Re_takeMapping [.inr (.inr 22), .inr (.inr r), .inr (.inr 17)] (HH L B1 B2 fi ai aj) (RQ L B1 B2 aj r (r + 7) fi ai (pMap (tx (fi 14 23) (ai 24)) (DD fi ai) b) (fun fi' ai' x => RepM fi' ai' r x.1 ∧ TC fi' x.2)) := by
  obtain ⟨p0, p1, hC, hf3, hf4, hf5, hpa, hpb, hpc⟩ := id hp
  have hCB : True := trivial
  have hCl : True := trivial
  have hfl : True := trivial
  have hn := hI.1
  generalize et : tx (fi 14 23) (ai 24) = t
  refine am_W.of rfl rfl ?_
  refine am_W.cv 8 m_Ma_clear rfl rfl rfl rfl (by and_intros <;> first | trivial | exact okI rfl rfl rfl | (refine okrI rfl rfl rfl rfl ?_ ?_ <;> (first | omega | (simp only [HS, FRS, CCS, am_R, hC, hf3, hf4, hf5, hCB, hCl, hfl] at *; omega))) | (refine okaI rfl rfl rfl rfl ?_ ?_ <;> (first | omega | (simp only [HS, FRS, CCS, am_R, hC, hf3, hf4, hf5, hCB, hCl, hfl] at *; omega))) | (first | omega | (simp only [HS, FRS, CCS, am_R, hC, hf3, hf4, hf5, hCB, hCl, hfl] at *; omega)) | (simp only [HS, FRS, CCS, hC, hf3, hf4, hf5, hCB, hCl, hfl])) (c_Ma_clear (d + 4) L B1 B2 fi ai aj r hp) ?_
  rintro r1 h1 ⟨rfl, rfl⟩
  have a1 : LI (am_u2 (am_u2 (am_u2 fi 43 r (-1)) 46 r (-1)) 49 r (-1)) ai := LI_p p0 (LI_p p0 (LI_p p0 hL))
  have a2 : Fr r (r + 7) fi (am_u2 (am_u2 (am_u2 fi 43 r (-1)) 46 r (-1)) 49 r (-1)) ai ai := (Fr_q p0 (by omega) (by omega)).tr ((Fr_q p0 (by omega) (by omega)).tr (Fr_q p0 (by omega) (by omega)))
  have a3 : am_u2 (am_u2 (am_u2 fi 43 r (-1)) 46 r (-1)) 49 r (-1) 43 r = -1 := by rw [u2n (by decide), u2n (by decide), u2s]
  have a4 : am_u2 (am_u2 (am_u2 fi 43 r (-1)) 46 r (-1)) 49 r (-1) 46 r = -1 := by rw [u2n (by decide), u2s]
  have a5 : am_u2 (am_u2 (am_u2 fi 43 r (-1)) 46 r (-1)) 49 r (-1) 49 r = -1 := u2s
  have a6 : am_u2 (am_u2 (am_u2 fi 43 r (-1)) 46 r (-1)) 49 r (-1) 15 23 = b := by rw [u2a (by omega), u2a (by omega), u2a (by omega)]; exact hb
  have a7 : am_u2 (am_u2 (am_u2 fi 43 r (-1)) 46 r (-1)) 49 r (-1) 10 17 = fi 10 17 := by rw [u2a (by omega), u2a (by omega), u2a (by omega)]
  generalize am_u2 (am_u2 (am_u2 fi 43 r (-1)) 46 r (-1)) 49 r (-1) = f1 at *
  unfold pMap
  show am_W _ _ (RQ L B1 B2 aj r (r + 7) fi ai (pb (pNum t (fi 10 17) b) _) _) _
  refine am_W.cv 2 m_Re_nextIsNumberBelow rfl rfl rfl rfl (by and_intros <;> first | trivial | exact okI rfl rfl rfl | (refine okrI rfl rfl rfl rfl ?_ ?_ <;> (first | omega | (simp only [HS, FRS, CCS, am_R, hC, hf3, hf4, hf5, hCB, hCl, hfl] at *; omega))) | (refine okaI rfl rfl rfl rfl ?_ ?_ <;> (first | omega | (simp only [HS, FRS, CCS, am_R, hC, hf3, hf4, hf5, hCB, hCl, hfl] at *; omega))) | (first | omega | (simp only [HS, FRS, CCS, am_R, hC, hf3, hf4, hf5, hCB, hCl, hfl] at *; omega)) | (simp only [HS, FRS, CCS, hC, hf3, hf4, hf5, hCB, hCl, hfl])) (by rw [show am_gf (HH L B1 B2 f1 ai aj) 10 17 0 = .inl (f1 10 17) from rfl, a7]; exact c_numT (d + 2) L B1 B2 f1 ai aj t b (fi 10 17) ⟨by simp only [] at hn; omega, by simp only [] at hn; omega⟩ a1 (by rw [a2.LT (Or.inr p0)]; exact et) a6) ?_
  rintro r1 h1 ⟨f2, a9, rfl, hF2, hL2, hm2⟩
  have ea := Fr0a hF2
  subst ea
  cases hpn : pNum t (fi 10 17) b with
  | inl e =>
    rw [hpn] at hm2
    obtain ⟨rfl, he⟩ := hm2
    refine am_W.br rfl rfl (by and_intros <;> first | trivial | exact okI rfl rfl rfl | (refine okrI rfl rfl rfl rfl ?_ ?_ <;> (first | omega | (simp only [HS, FRS, CCS, am_R, hC, hf3, hf4, hf5, hCB, hCl, hfl] at *; omega))) | (refine okaI rfl rfl rfl rfl ?_ ?_ <;> (first | omega | (simp only [HS, FRS, CCS, am_R, hC, hf3, hf4, hf5, hCB, hCl, hfl] at *; omega))) | (first | omega | (simp only [HS, FRS, CCS, am_R, hC, hf3, hf4, hf5, hCB, hCl, hfl] at *; omega)) | (simp only [HS, FRS, CCS, hC, hf3, hf4, hf5, hCB, hCl, hfl])) (fun c3 => absurd rfl c3) (fun c3 => ?_)
    exact am_W.rt rfl rfl (by and_intros <;> first | trivial | exact okI rfl rfl rfl | (refine okrI rfl rfl rfl rfl ?_ ?_ <;> (first | omega | (simp only [HS, FRS, CCS, am_R, hC, hf3, hf4, hf5, hCB, hCl, hfl] at *; omega))) | (refine okaI rfl rfl rfl rfl ?_ ?_ <;> (first | omega | (simp only [HS, FRS, CCS, am_R, hC, hf3, hf4, hf5, hCB, hCl, hfl] at *; omega))) | (first | omega | (simp only [HS, FRS, CCS, am_R, hC, hf3, hf4, hf5, hCB, hCl, hfl] at *; omega)) | (simp only [HS, FRS, CCS, hC, hf3, hf4, hf5, hCB, hCl, hfl])) (RQ_e rfl (a2.tr (hF2.mo (Or.inl rfl))) hL2 he)
  | inr y =>
    rw [hpn] at hm2
    obtain ⟨rfl, hT2, m1, m2⟩ := hm2
    rw [pb_r]
    have l2 := hL2.2.2.1
    refine am_W.br rfl rfl (by and_intros <;> first | trivial | exact okI rfl rfl rfl | (refine okrI rfl rfl rfl rfl ?_ ?_ <;> (first | omega | (simp only [HS, FRS, CCS, am_R, hC, hf3, hf4, hf5, hCB, hCl, hfl] at *; omega))) | (refine okaI rfl rfl rfl rfl ?_ ?_ <;> (first | omega | (simp only [HS, FRS, CCS, am_R, hC, hf3, hf4, hf5, hCB, hCl, hfl] at *; omega))) | (first | omega | (simp only [HS, FRS, CCS, am_R, hC, hf3, hf4, hf5, hCB, hCl, hfl] at *; omega)) | (simp only [HS, FRS, CCS, hC, hf3, hf4, hf5, hCB, hCl, hfl])) (fun c3 => ?_) (fun c3 => absurd c3 (by decide))
    refine am_W.gp 28 rfl (by and_intros <;> first | trivial | exact okI rfl rfl rfl | (refine okrI rfl rfl rfl rfl ?_ ?_ <;> (first | omega | (simp only [HS, FRS, CCS, am_R, hC, hf3, hf4, hf5, hCB, hCl, hfl] at *; omega))) | (refine okaI rfl rfl rfl rfl ?_ ?_ <;> (first | omega | (simp only [HS, FRS, CCS, am_R, hC, hf3, hf4, hf5, hCB, hCl, hfl] at *; omega))) | (first | omega | (simp only [HS, FRS, CCS, am_R, hC, hf3, hf4, hf5, hCB, hCl, hfl] at *; omega)) | (simp only [HS, FRS, CCS, hC, hf3, hf4, hf5, hCB, hCl, hfl])) ?_
    simp only [HS, FRS, hC, hf3, hf4, hf5, hCB, hCl, hfl]
    have b1 : LI (am_u2 f2 39 r (f2 18 23)) a9 := LI_p p0 hL2
    have b2 : Fr r (r + 7) fi (am_u2 f2 39 r (f2 18 23)) a9 a9 := (a2.tr (hF2.mo (Or.inl rfl))).tr (Fr_q p0 (by omega) (by omega))
    have b3 : am_u2 f2 39 r (f2 18 23) 43 r = -1 := by rw [u2n (by decide), hF2.at 43 r p0 (by omega)]; exact a3
    have b4 : am_u2 f2 39 r (f2 18 23) 46 r = -1 := by rw [u2n (by decide), hF2.at 46 r p0 (by omega)]; exact a4
    have b5 : am_u2 f2 39 r (f2 18 23) 49 r = -1 := by rw [u2n (by decide), hF2.at 49 r p0 (by omega)]; exact a5
    have b6 : am_u2 f2 39 r (f2 18 23) 15 23 = y.2.2.2 := by rw [u2a (by omega)]; exact hT2.2.2.2
    have b7 : am_u2 f2 39 r (f2 18 23) 39 r = y.2.2.1 := by rw [u2s]; exact m1
    have hyR : am_R y.2.2.1 := ⟨by omega, by omega⟩
    generalize am_u2 f2 39 r (f2 18 23) = f3 at *
    have hD3 := b2.D (Or.inr p0)
    have hco := co_in y.2.2.1 hI
    refine am_W.cv 1 m_So_columnsOf rfl rfl rfl rfl (by and_intros <;> first | trivial | exact okI rfl rfl rfl | (refine okrI rfl rfl rfl rfl ?_ ?_ <;> (first | omega | (simp only [HS, FRS, CCS, am_R, hC, hf3, hf4, hf5, hCB, hCl, hfl] at *; omega))) | (refine okaI rfl rfl rfl rfl ?_ ?_ <;> (first | omega | (simp only [HS, FRS, CCS, am_R, hC, hf3, hf4, hf5, hCB, hCl, hfl] at *; omega))) | (first | omega | (simp only [HS, FRS, CCS, am_R, hC, hf3, hf4, hf5, hCB, hCl, hfl] at *; omega)) | (simp only [HS, FRS, CCS, hC, hf3, hf4, hf5, hCB, hCl, hfl])) (by rw [show am_gf (HH L B1 B2 f3 a9 aj) 39 r 0 = .inl (f3 39 r) from rfl, b7]; exact c_So_columnsOf (d + 4) L B1 B2 f3 a9 aj y.2.2.1 hyR (by rw [hD3]; exact hI)) ?_
    rintro r1 h1 ⟨rfl, rfl⟩
    rw [hD3]
    have hkR : am_R (co (DD fi a9) y.2.2.1) := ⟨by omega, by omega⟩
    generalize hk : co (DD fi a9) y.2.2.1 = k at *
    -- the colon
    refine am_W.cv 2 m_Re_nextIs rfl rfl rfl rfl (by and_intros <;> first | trivial | exact okI rfl rfl rfl | (refine okrI rfl rfl rfl rfl ?_ ?_ <;> (first | omega | (simp only [HS, FRS, CCS, am_R, hC, hf3, hf4, hf5, hCB, hCl, hfl] at *; omega))) | (refine okaI rfl rfl rfl rfl ?_ ?_ <;> (first | omega | (simp only [HS, FRS, CCS, am_R, hC, hf3, hf4, hf5, hCB, hCl, hfl] at *; omega))) | (first | omega | (simp only [HS, FRS, CCS, am_R, hC, hf3, hf4, hf5, hCB, hCl, hfl] at *; omega)) | (simp only [HS, FRS, CCS, hC, hf3, hf4, hf5, hCB, hCl, hfl])) (c_isT (d + 2) L B1 B2 f3 a9 aj t y.2.2.2 58 (by and_intros <;> first | trivial | exact okI rfl rfl rfl | (refine okrI rfl rfl rfl rfl ?_ ?_ <;> (first | omega | (simp only [HS, FRS, CCS, am_R, hC, hf3, hf4, hf5, hCB, hCl, hfl] at *; omega))) | (refine okaI rfl rfl rfl rfl ?_ ?_ <;> (first | omega | (simp only [HS, FRS, CCS, am_R, hC, hf3, hf4, hf5, hCB, hCl, hfl] at *; omega))) | (first | omega | (simp only [HS, FRS, CCS, am_R, hC, hf3, hf4, hf5, hCB, hCl, hfl] at *; omega)) | (simp only [HS, FRS, CCS, hC, hf3, hf4, hf5, hCB, hCl, hfl])) b1 (by rw [b2.LT (Or.inr p0)]; exact et) b6) ?_
    rintro r1 h1 ⟨f4, a4', rfl, hF4, hL4, hm4⟩
    have ea := Fr0a hF4
    subst ea
    cases hpi : pIs t 58 y.2.2.2 with
    | inl e =>
      rw [hpi] at hm4
      obtain ⟨rfl, he⟩ := hm4
      refine am_W.br rfl rfl (by and_intros <;> first | trivial | exact okI rfl rfl rfl | (refine okrI rfl rfl rfl rfl ?_ ?_ <;> (first | omega | (simp only [HS, FRS, CCS, am_R, hC, hf3, hf4, hf5, hCB, hCl, hfl] at *; omega))) | (refine okaI rfl rfl rfl rfl ?_ ?_ <;> (first | omega | (simp only [HS, FRS, CCS, am_R, hC, hf3, hf4, hf5, hCB, hCl, hfl] at *; omega))) | (first | omega | (simp only [HS, FRS, CCS, am_R, hC, hf3, hf4, hf5, hCB, hCl, hfl] at *; omega)) | (simp only [HS, FRS, CCS, hC, hf3, hf4, hf5, hCB, hCl, hfl])) (fun c3 => absurd rfl c3) (fun c3 => ?_)
      exact am_W.rt rfl rfl (by and_intros <;> first | trivial | exact okI rfl rfl rfl | (refine okrI rfl rfl rfl rfl ?_ ?_ <;> (first | omega | (simp only [HS, FRS, CCS, am_R, hC, hf3, hf4, hf5, hCB, hCl, hfl] at *; omega))) | (refine okaI rfl rfl rfl rfl ?_ ?_ <;> (first | omega | (simp only [HS, FRS, CCS, am_R, hC, hf3, hf4, hf5, hCB, hCl, hfl] at *; omega))) | (first | omega | (simp only [HS, FRS, CCS, am_R, hC, hf3, hf4, hf5, hCB, hCl, hfl] at *; omega)) | (simp only [HS, FRS, CCS, hC, hf3, hf4, hf5, hCB, hCl, hfl])) (RQ_e rfl (b2.tr (hF4.mo (Or.inl rfl))) hL4 he)
    | inr z =>
      rw [hpi] at hm4
      obtain ⟨rfl, hT4, -⟩ := hm4
      rw [pb_r]
      refine am_W.br rfl rfl (by and_intros <;> first | trivial | exact okI rfl rfl rfl | (refine okrI rfl rfl rfl rfl ?_ ?_ <;> (first | omega | (simp only [HS, FRS, CCS, am_R, hC, hf3, hf4, hf5, hCB, hCl, hfl] at *; omega))) | (refine okaI rfl rfl rfl rfl ?_ ?_ <;> (first | omega | (simp only [HS, FRS, CCS, am_R, hC, hf3, hf4, hf5, hCB, hCl, hfl] at *; omega))) | (first | omega | (simp only [HS, FRS, CCS, am_R, hC, hf3, hf4, hf5, hCB, hCl, hfl] at *; omega)) | (simp only [HS, FRS, CCS, hC, hf3, hf4, hf5, hCB, hCl, hfl])) (fun c3 => ?_) (fun c3 => absurd c3 (by decide))
      have d2 : Fr r (r + 7) fi f4 a4' a4' := b2.tr (hF4.mo (Or.inl rfl))
      refine am_W.cv 3 m_To_next rfl rfl rfl rfl (by and_intros <;> first | trivial | exact okI rfl rfl rfl | (refine okrI rfl rfl rfl rfl ?_ ?_ <;> (first | omega | (simp only [HS, FRS, CCS, am_R, hC, hf3, hf4, hf5, hCB, hCl, hfl] at *; omega))) | (refine okaI rfl rfl rfl rfl ?_ ?_ <;> (first | omega | (simp only [HS, FRS, CCS, am_R, hC, hf3, hf4, hf5, hCB, hCl, hfl] at *; omega))) | (first | omega | (simp only [HS, FRS, CCS, am_R, hC, hf3, hf4, hf5, hCB, hCl, hfl] at *; omega)) | (simp only [HS, FRS, CCS, hC, hf3, hf4, hf5, hCB, hCl, hfl])) (c_nxT (d + 3) L B1 B2 f4 a4' aj t z.2.2.2 hL4 (by rw [d2.LT (Or.inr p0)]; exact et) hT4.2.2.2) ?_
      rintro r1 h1 ⟨rfl, f5, rfl, hF5, hL5, hT5⟩
      have d5 : Fr r (r + 7) fi f5 a4' a4' := d2.tr (hF5.mo (Or.inl rfl))
      have g5 : ∀ j, f5 j r = f3 j r := fun j => by rw [hF5.at j r p0 (by omega), hF4.at j r p0 (by omega)]
      have hn5 := c_takeName (d + 1) L B1 B2 f5 a4' aj (r + 1) k _ hpa hkR hL5 hT5 (by rw [← hT5.2.1]; exact hL5.2.2.2.1)
      rw [d5.LT (Or.inr p0), et] at hn5
      refine am_W.cv 2 m_Re_takeName rfl rfl rfl rfl (by and_intros <;> first | trivial | exact okI rfl rfl rfl | (refine okrI rfl rfl rfl rfl ?_ ?_ <;> (first | omega | (simp only [HS, FRS, CCS, am_R, hC, hf3, hf4, hf5, hCB, hCl, hfl] at *; omega))) | (refine okaI rfl rfl rfl rfl ?_ ?_ <;> (first | omega | (simp only [HS, FRS, CCS, am_R, hC, hf3, hf4, hf5, hCB, hCl, hfl] at *; omega))) | (first | omega | (simp only [HS, FRS, CCS, am_R, hC, hf3, hf4, hf5, hCB, hCl, hfl] at *; omega)) | (simp only [HS, FRS, CCS, hC, hf3, hf4, hf5, hCB, hCl, hfl])) (by rw [show am_gf (HH L B1 B2 f5 a4' aj) 40 r 2 = .inr (.inr (FRR B1 B2 40 r)) from rfl, hf3]; exact hn5) ?_
      rintro r1 h1 ⟨f6, a6', rfl, hF6, hL6, hm6⟩
      have d6 : Fr r (r + 7) fi f6 a4' a6' := d5.tr (hF6.mo (by omega))
      cases hpp : pName t k (lx t z.2.2.2 0) with
      | inl e =>
        rw [hpp] at hm6
        obtain ⟨rfl, he⟩ := hm6
        refine am_W.br rfl rfl (by and_intros <;> first | trivial | exact okI rfl rfl rfl | (refine okrI rfl rfl rfl rfl ?_ ?_ <;> (first | omega | (simp only [HS, FRS, CCS, am_R, hC, hf3, hf4, hf5, hCB, hCl, hfl] at *; omega))) | (refine okaI rfl rfl rfl rfl ?_ ?_ <;> (first | omega | (simp only [HS, FRS, CCS, am_R, hC, hf3, hf4, hf5, hCB, hCl, hfl] at *; omega))) | (first | omega | (simp only [HS, FRS, CCS, am_R, hC, hf3, hf4, hf5, hCB, hCl, hfl] at *; omega)) | (simp only [HS, FRS, CCS, hC, hf3, hf4, hf5, hCB, hCl, hfl])) (fun c3 => ?_) (fun c3 => absurd rfl c3)
        exact am_W.rt rfl rfl (by and_intros <;> first | trivial | exact okI rfl rfl rfl | (refine okrI rfl rfl rfl rfl ?_ ?_ <;> (first | omega | (simp only [HS, FRS, CCS, am_R, hC, hf3, hf4, hf5, hCB, hCl, hfl] at *; omega))) | (refine okaI rfl rfl rfl rfl ?_ ?_ <;> (first | omega | (simp only [HS, FRS, CCS, am_R, hC, hf3, hf4, hf5, hCB, hCl, hfl] at *; omega))) | (first | omega | (simp only [HS, FRS, CCS, am_R, hC, hf3, hf4, hf5, hCB, hCl, hfl] at *; omega)) | (simp only [HS, FRS, CCS, hC, hf3, hf4, hf5, hCB, hCl, hfl])) (RQ_e rfl d6 hL6 he)
      | inr pp =>
        rw [hpp] at hm6
        obtain ⟨rfl, rp1, e6⟩ := hm6
        rw [pb_r]
        refine am_W.br rfl rfl (by and_intros <;> first | trivial | exact okI rfl rfl rfl | (refine okrI rfl rfl rfl rfl ?_ ?_ <;> (first | omega | (simp only [HS, FRS, CCS, am_R, hC, hf3, hf4, hf5, hCB, hCl, hfl] at *; omega))) | (refine okaI rfl rfl rfl rfl ?_ ?_ <;> (first | omega | (simp only [HS, FRS, CCS, am_R, hC, hf3, hf4, hf5, hCB, hCl, hfl] at *; omega))) | (first | omega | (simp only [HS, FRS, CCS, am_R, hC, hf3, hf4, hf5, hCB, hCl, hfl] at *; omega)) | (simp only [HS, FRS, CCS, hC, hf3, hf4, hf5, hCB, hCl, hfl])) (fun c3 => absurd c3 (by decide)) (fun c3 => ?_)
        have g6 : ∀ j, f6 j r = f3 j r := fun j => by rw [hF6.at j r p0 (by omega), g5]
        -- the quote
        refine am_W.cv 2 m_Re_nextIs rfl rfl rfl rfl (by and_intros <;> first | trivial | exact okI rfl rfl rfl | (refine okrI rfl rfl rfl rfl ?_ ?_ <;> (first | omega | (simp only [HS, FRS, CCS, am_R, hC, hf3, hf4, hf5, hCB, hCl, hfl] at *; omega))) | (refine okaI rfl rfl rfl rfl ?_ ?_ <;> (first | omega | (simp only [HS, FRS, CCS, am_R, hC, hf3, hf4, hf5, hCB, hCl, hfl] at *; omega))) | (first | omega | (simp only [HS, FRS, CCS, am_R, hC, hf3, hf4, hf5, hCB, hCl, hfl] at *; omega)) | (simp only [HS, FRS, CCS, hC, hf3, hf4, hf5, hCB, hCl, hfl])) (c_isT (d + 2) L B1 B2 f6 a6' aj t pp.2 34 (by and_intros <;> first | trivial | exact okI rfl rfl rfl | (refine okrI rfl rfl rfl rfl ?_ ?_ <;> (first | omega | (simp only [HS, FRS, CCS, am_R, hC, hf3, hf4, hf5, hCB, hCl, hfl] at *; omega))) | (refine okaI rfl rfl rfl rfl ?_ ?_ <;> (first | omega | (simp only [HS, FRS, CCS, am_R, hC, hf3, hf4, hf5, hCB, hCl, hfl] at *; omega))) | (first | omega | (simp only [HS, FRS, CCS, am_R, hC, hf3, hf4, hf5, hCB, hCl, hfl] at *; omega)) | (simp only [HS, FRS, CCS, hC, hf3, hf4, hf5, hCB, hCl, hfl])) hL6 (by rw [d6.LT (Or.inr p0)]; exact et) e6) ?_
        rintro r1 h1 ⟨f7, a7', rfl, hF7, hL7, hm7⟩
        have ea := Fr0a hF7
        subst ea
        have d7 : Fr r (r + 7) fi f7 a4' a7' := d6.tr (hF7.mo (Or.inl rfl))
        cases hpq : pIs t 34 pp.2 with
        | inl e =>
          rw [hpq] at hm7
          obtain ⟨rfl, he⟩ := hm7
          refine am_W.br rfl rfl (by and_intros <;> first | trivial | exact okI rfl rfl rfl | (refine okrI rfl rfl rfl rfl ?_ ?_ <;> (first | omega | (simp only [HS, FRS, CCS, am_R, hC, hf3, hf4, hf5, hCB, hCl, hfl] at *; omega))) | (refine okaI rfl rfl rfl rfl ?_ ?_ <;> (first | omega | (simp only [HS, FRS, CCS, am_R, hC, hf3, hf4, hf5, hCB, hCl, hfl] at *; omega))) | (first | omega | (simp only [HS, FRS, CCS, am_R, hC, hf3, hf4, hf5, hCB, hCl, hfl] at *; omega)) | (simp only [HS, FRS, CCS, hC, hf3, hf4, hf5, hCB, hCl, hfl])) (fun c3 => ?_) (fun c3 => absurd rfl c3)
          exact am_W.rt rfl rfl (by and_intros <;> first | trivial | exact okI rfl rfl rfl | (refine okrI rfl rfl rfl rfl ?_ ?_ <;> (first | omega | (simp only [HS, FRS, CCS, am_R, hC, hf3, hf4, hf5, hCB, hCl, hfl] at *; omega))) | (refine okaI rfl rfl rfl rfl ?_ ?_ <;> (first | omega | (simp only [HS, FRS, CCS, am_R, hC, hf3, hf4, hf5, hCB, hCl, hfl] at *; omega))) | (first | omega | (simp only [HS, FRS, CCS, am_R, hC, hf3, hf4, hf5, hCB, hCl, hfl] at *; omega)) | (simp only [HS, FRS, CCS, hC, hf3, hf4, hf5, hCB, hCl, hfl])) (RQ_e rfl d7 hL7 he)
        | inr q =>
          rw [hpq] at hm7
          obtain ⟨rfl, hT7, -⟩ := hm7
          rw [pb_r]
          refine am_W.br rfl rfl (by and_intros <;> first | trivial | exact okI rfl rfl rfl | (refine okrI rfl rfl rfl rfl ?_ ?_ <;> (first | omega | (simp only [HS, FRS, CCS, am_R, hC, hf3, hf4, hf5, hCB, hCl, hfl] at *; omega))) | (refine okaI rfl rfl rfl rfl ?_ ?_ <;> (first | omega | (simp only [HS, FRS, CCS, am_R, hC, hf3, hf4, hf5, hCB, hCl, hfl] at *; omega))) | (first | omega | (simp only [HS, FRS, CCS, am_R, hC, hf3, hf4, hf5, hCB, hCl, hfl] at *; omega)) | (simp only [HS, FRS, CCS, hC, hf3, hf4, hf5, hCB, hCl, hfl])) (fun c3 => absurd c3 (by decide)) (fun c3 => ?_)
          have hn7 := c_takeTemplate (d + 2) L B1 B2 f7 a7' aj (r + 3) k hpb hkR hL7
          rw [d7.LT (Or.inr p0), et, hT7.2.2.2] at hn7
          refine am_W.cv 2 m_Re_takeTemplate rfl rfl rfl rfl (by and_intros <;> first | trivial | exact okI rfl rfl rfl | (refine okrI rfl rfl rfl rfl ?_ ?_ <;> (first | omega | (simp only [HS, FRS, CCS, am_R, hC, hf3, hf4, hf5, hCB, hCl, hfl] at *; omega))) | (refine okaI rfl rfl rfl rfl ?_ ?_ <;> (first | omega | (simp only [HS, FRS, CCS, am_R, hC, hf3, hf4, hf5, hCB, hCl, hfl] at *; omega))) | (first | omega | (simp only [HS, FRS, CCS, am_R, hC, hf3, hf4, hf5, hCB, hCl, hfl] at *; omega)) | (simp only [HS, FRS, CCS, hC, hf3, hf4, hf5, hCB, hCl, hfl])) (by rw [show am_gf (HH L B1 B2 f7 a7' aj) 41 r 2 = .inr (.inr (FRR B1 B2 41 r)) from rfl, hf4]; exact hn7) ?_
          rintro r1 h1 ⟨f8, a8', rfl, hF8, hL8, hm8⟩
          have d8 : Fr r (r + 7) fi f8 a4' a8' := d7.tr (hF8.mo (by omega))
          cases hpl : pcs t k 30 q.2.2.2 [] with
          | inl e =>
            rw [hpl] at hm8
            obtain ⟨rfl, he⟩ := hm8
            refine am_W.br rfl rfl (by and_intros <;> first | trivial | exact okI rfl rfl rfl | (refine okrI rfl rfl rfl rfl ?_ ?_ <;> (first | omega | (simp only [HS, FRS, CCS, am_R, hC, hf3, hf4, hf5, hCB, hCl, hfl] at *; omega))) | (refine okaI rfl rfl rfl rfl ?_ ?_ <;> (first | omega | (simp only [HS, FRS, CCS, am_R, hC, hf3, hf4, hf5, hCB, hCl, hfl] at *; omega))) | (first | omega | (simp only [HS, FRS, CCS, am_R, hC, hf3, hf4, hf5, hCB, hCl, hfl] at *; omega)) | (simp only [HS, FRS, CCS, hC, hf3, hf4, hf5, hCB, hCl, hfl])) (fun c3 => absurd rfl c3) (fun c3 => ?_)
            exact am_W.rt rfl rfl (by and_intros <;> first | trivial | exact okI rfl rfl rfl | (refine okrI rfl rfl rfl rfl ?_ ?_ <;> (first | omega | (simp only [HS, FRS, CCS, am_R, hC, hf3, hf4, hf5, hCB, hCl, hfl] at *; omega))) | (refine okaI rfl rfl rfl rfl ?_ ?_ <;> (first | omega | (simp only [HS, FRS, CCS, am_R, hC, hf3, hf4, hf5, hCB, hCl, hfl] at *; omega))) | (first | omega | (simp only [HS, FRS, CCS, am_R, hC, hf3, hf4, hf5, hCB, hCl, hfl] at *; omega)) | (simp only [HS, FRS, CCS, hC, hf3, hf4, hf5, hCB, hCl, hfl])) (RQ_e rfl d8 hL8 he)
          | inr l =>
            rw [hpl] at hm8
            obtain ⟨rfl, rp2, e8⟩ := hm8
            rw [pb_r]
            refine am_W.br rfl rfl (by and_intros <;> first | trivial | exact okI rfl rfl rfl | (refine okrI rfl rfl rfl rfl ?_ ?_ <;> (first | omega | (simp only [HS, FRS, CCS, am_R, hC, hf3, hf4, hf5, hCB, hCl, hfl] at *; omega))) | (refine okaI rfl rfl rfl rfl ?_ ?_ <;> (first | omega | (simp only [HS, FRS, CCS, am_R, hC, hf3, hf4, hf5, hCB, hCl, hfl] at *; omega))) | (first | omega | (simp only [HS, FRS, CCS, am_R, hC, hf3, hf4, hf5, hCB, hCl, hfl] at *; omega)) | (simp only [HS, FRS, CCS, hC, hf3, hf4, hf5, hCB, hCl, hfl])) (fun c3 => ?_) (fun c3 => absurd c3 (by decide))
            refine am_W.cv 3 m_To_next rfl rfl rfl rfl (by and_intros <;> first | trivial | exact okI rfl rfl rfl | (refine okrI rfl rfl rfl rfl ?_ ?_ <;> (first | omega | (simp only [HS, FRS, CCS, am_R, hC, hf3, hf4, hf5, hCB, hCl, hfl] at *; omega))) | (refine okaI rfl rfl rfl rfl ?_ ?_ <;> (first | omega | (simp only [HS, FRS, CCS, am_R, hC, hf3, hf4, hf5, hCB, hCl, hfl] at *; omega))) | (first | omega | (simp only [HS, FRS, CCS, am_R, hC, hf3, hf4, hf5, hCB, hCl, hfl] at *; omega)) | (simp only [HS, FRS, CCS, hC, hf3, hf4, hf5, hCB, hCl, hfl])) (c_nxT (d + 3) L B1 B2 f8 a8' aj t l.2 hL8 (by rw [d8.LT (Or.inr p0)]; exact et) e8) ?_
            rintro r1 h1 ⟨rfl, f9, rfl, hF9, hL9, hT9⟩
            have d9 : Fr r (r + 7) fi f9 a4' a8' := d8.tr (hF9.mo (Or.inl rfl))
            have g9 : ∀ j, f9 j r = f3 j r := fun j => by rw [hF9.at j r p0 (by omega), hF8.at j r p0 (by omega), hF7.at j r p0 (by omega), g6]
            have rp1' : RepP f9 a8' (r + 1) pp.1 := rp1.fr (fun j => by rw [hF9.at j _ (by omega) (by omega), hF8.at j _ (by omega) (by omega), hF7.at j _ (by omega) (by omega)]) (hF8.2.1 _ (by omega))
            have rp2' : RepP f9 a8' (r + 3) (0, 0, l.1) := rp2.fr (fun j => hF9.at j _ (by omega) (by omega)) rfl
            have hD9 := d9.D (Or.inr p0)
            have ho := c_takeObject d L B1 B2 f9 a8' aj r y.2.2.1 k _ hp hkR hL9 (by rw [hD9]; exact hI) ⟨by rw [g9]; exact b7, hyR⟩ (by rw [g9]; exact b3) hT9
            rw [d9.LT (Or.inr p0), et, hD9] at ho
            refine am_W.cv 2 m_Re_takeObject rfl rfl rfl rfl (by and_intros <;> first | trivial | exact okI rfl rfl rfl | (refine okrI rfl rfl rfl rfl ?_ ?_ <;> (first | omega | (simp only [HS, FRS, CCS, am_R, hC, hf3, hf4, hf5, hCB, hCl, hfl] at *; omega))) | (refine okaI rfl rfl rfl rfl ?_ ?_ <;> (first | omega | (simp only [HS, FRS, CCS, am_R, hC, hf3, hf4, hf5, hCB, hCl, hfl] at *; omega))) | (first | omega | (simp only [HS, FRS, CCS, am_R, hC, hf3, hf4, hf5, hCB, hCl, hfl] at *; omega)) | (simp only [HS, FRS, CCS, hC, hf3, hf4, hf5, hCB, hCl, hfl])) ho ?_
            rintro r1 h1 ⟨fA, aA, rfl, hFA, hLA, hmA⟩
            have dA : Fr r (r + 7) fi fA a4' aA := d9.tr hFA
            cases hpo : pObj t (DD fi a4') y.2.2.1 k (lx t l.2 0) with
            | inl e =>
              rw [hpo] at hmA
              obtain ⟨rfl, he⟩ := hmA
              refine am_W.br rfl rfl (by and_intros <;> first | trivial | exact okI rfl rfl rfl | (refine okrI rfl rfl rfl rfl ?_ ?_ <;> (first | omega | (simp only [HS, FRS, CCS, am_R, hC, hf3, hf4, hf5, hCB, hCl, hfl] at *; omega))) | (refine okaI rfl rfl rfl rfl ?_ ?_ <;> (first | omega | (simp only [HS, FRS, CCS, am_R, hC, hf3, hf4, hf5, hCB, hCl, hfl] at *; omega))) | (first | omega | (simp only [HS, FRS, CCS, am_R, hC, hf3, hf4, hf5, hCB, hCl, hfl] at *; omega)) | (simp only [HS, FRS, CCS, hC, hf3, hf4, hf5, hCB, hCl, hfl])) (fun c3 => absurd rfl c3) (fun c3 => ?_)
              exact am_W.rt rfl rfl (by and_intros <;> first | trivial | exact okI rfl rfl rfl | (refine okrI rfl rfl rfl rfl ?_ ?_ <;> (first | omega | (simp only [HS, FRS, CCS, am_R, hC, hf3, hf4, hf5, hCB, hCl, hfl] at *; omega))) | (refine okaI rfl rfl rfl rfl ?_ ?_ <;> (first | omega | (simp only [HS, FRS, CCS, am_R, hC, hf3, hf4, hf5, hCB, hCl, hfl] at *; omega))) | (first | omega | (simp only [HS, FRS, CCS, am_R, hC, hf3, hf4, hf5, hCB, hCl, hfl] at *; omega)) | (simp only [HS, FRS, CCS, hC, hf3, hf4, hf5, hCB, hCl, hfl])) (RQ_e rfl dA hLA he)
            | inr o =>
              rw [hpo] at hmA
              obtain ⟨rfl, rp3, o1, o2, hTA, o4, o5, o6, o7⟩ := hmA
              rw [pb_r]
              refine am_W.br rfl rfl (by and_intros <;> first | trivial | exact okI rfl rfl rfl | (refine okrI rfl rfl rfl rfl ?_ ?_ <;> (first | omega | (simp only [HS, FRS, CCS, am_R, hC, hf3, hf4, hf5, hCB, hCl, hfl] at *; omega))) | (refine okaI rfl rfl rfl rfl ?_ ?_ <;> (first | omega | (simp only [HS, FRS, CCS, am_R, hC, hf3, hf4, hf5, hCB, hCl, hfl] at *; omega))) | (first | omega | (simp only [HS, FRS, CCS, am_R, hC, hf3, hf4, hf5, hCB, hCl, hfl] at *; omega)) | (simp only [HS, FRS, CCS, hC, hf3, hf4, hf5, hCB, hCl, hfl])) (fun c3 => ?_) (fun c3 => absurd c3 (by decide))
              have rq1 : RepP fA aA (r + 1) pp.1 := rp1'.fr (fun j => o6 j _ (by omega) (by omega)) (o7 _ (by omega) (by omega))
              have rq2 : RepP fA aA (r + 3) (0, 0, l.1) := rp2'.fr (fun j => o6 j _ (by omega) (by omega)) (o7 _ (by omega) (by omega))
              have x39 : fA 39 r = y.2.2.1 := by rw [o5 39 (by decide) (by decide) (by decide), g9]; exact b7
              have x46 : fA 46 r = -1 := by rw [o5 46 (by decide) (by decide) (by decide), g9]; exact b4
              have x49 : fA 49 r = -1 := by rw [o5 49 (by decide) (by decide) (by decide), g9]; exact b5
              have hM : ∀ (f : Nat → Nat → Int) (C : JT) (g : Int), (∀ j b, r < b → b < r + 7 → f j b = fA j b) → f 39 r = fA 39 r → f 43 r = fA 43 r → f 44 r = fA 44 r → f 45 r = fA 45 r → f 46 r = C.1 → (C.1 ≠ -1 → f 47 r = C.2.1) → (C.1 ≠ -1 → C.1 ≠ 1853189228 → f 48 r = C.2.2) → f 49 r = g → RepM f aA r (y.2.2.1, pp.1, (0, 0, l.1), o.1, o.2.1, C, g) := by
                intro f C g h1 h2 h3 h4 h5 h6 h7 h8 h9
                refine ⟨h2.trans x39, rq1.fr (fun j => h1 j _ (by omega) (by omega)) rfl, rq2.fr (fun j => h1 j _ (by omega) (by omega)) rfl, rp3.fr (fun j => h1 j _ (by omega) (by omega)) rfl, h3.trans o1, ?_, h6, h7, h8, h9⟩
                rw [h4, h5]
                exact o2
              have hdot : ∀ (f : Nat → Nat → Int) (C : JT) (g : Int) (σ : Tk) (R : Int ⊕ (MT × Tk)), Fr r (r + 7) fi f a4' aA → LI f aA → TC f σ → RepM f aA r (y.2.2.1, pp.1, (0, 0, l.1), o.1, o.2.1, C, g) → R = (if σ.2.1 = 46 then .inr ((y.2.2.1, pp.1, (0, 0, l.1), o.1, o.2.1, C, g), lx t σ.2.2.2 0) else .inl (-10 - σ.1)) → am_W (am_ev am_prog (d + 5)) T_Re_takeMapping (RQ L B1 B2 aj r (r + 7) fi a4' R (fun fi' ai' x => RepM fi' ai' r x.1 ∧ TC fi' x.2)) (156, [some (.inr (.inr 22)), some (.inr (.inr r)), some (.inr (.inr 17)), some (.inl k)], [], HH L B1 B2 f aA aj) := by
                intro f C g σ R hF hL hT hRm hR
                have lf := hL.2.2.2
                obtain ⟨t1, t2, t3, t4⟩ := id hT
                refine am_W.br rfl rfl (by and_intros <;> first | trivial | exact okI rfl rfl rfl | (refine okrI rfl rfl rfl rfl ?_ ?_ <;> (first | omega | (simp only [HS, FRS, CCS, am_R, hC, hf3, hf4, hf5, hCB, hCl, hfl] at *; omega))) | (refine okaI rfl rfl rfl rfl ?_ ?_ <;> (first | omega | (simp only [HS, FRS, CCS, am_R, hC, hf3, hf4, hf5, hCB, hCl, hfl] at *; omega))) | (first | omega | (simp only [HS, FRS, CCS, am_R, hC, hf3, hf4, hf5, hCB, hCl, hfl] at *; omega)) | (simp only [HS, FRS, CCS, hC, hf3, hf4, hf5, hCB, hCl, hfl])) (fun c4 => ?_) (fun c4 => ?_)
                · simp only [HS, FRS, hC, hf3, hf4, hf5, hCB, hCl, hfl] at c4
                  rw [if_pos (by omega)] at hR
                  refine am_W.cv 3 m_To_next rfl rfl rfl rfl (by and_intros <;> first | trivial | exact okI rfl rfl rfl | (refine okrI rfl rfl rfl rfl ?_ ?_ <;> (first | omega | (simp only [HS, FRS, CCS, am_R, hC, hf3, hf4, hf5, hCB, hCl, hfl] at *; omega))) | (refine okaI rfl rfl rfl rfl ?_ ?_ <;> (first | omega | (simp only [HS, FRS, CCS, am_R, hC, hf3, hf4, hf5, hCB, hCl, hfl] at *; omega))) | (first | omega | (simp only [HS, FRS, CCS, am_R, hC, hf3, hf4, hf5, hCB, hCl, hfl] at *; omega)) | (simp only [HS, FRS, CCS, hC, hf3, hf4, hf5, hCB, hCl, hfl])) (c_nxT (d + 3) L B1 B2 f aA aj t σ.2.2.2 hL (by rw [hF.LT (Or.inr p0)]; exact et) t4) ?_
                  rintro r1 h1 ⟨rfl, fz, rfl, hFz, hLz, hTz⟩
                  exact am_W.rt rfl rfl (by and_intros <;> first | trivial | exact okI rfl rfl rfl | (refine okrI rfl rfl rfl rfl ?_ ?_ <;> (first | omega | (simp only [HS, FRS, CCS, am_R, hC, hf3, hf4, hf5, hCB, hCl, hfl] at *; omega))) | (refine okaI rfl rfl rfl rfl ?_ ?_ <;> (first | omega | (simp only [HS, FRS, CCS, am_R, hC, hf3, hf4, hf5, hCB, hCl, hfl] at *; omega))) | (first | omega | (simp only [HS, FRS, CCS, am_R, hC, hf3, hf4, hf5, hCB, hCl, hfl] at *; omega)) | (simp only [HS, FRS, CCS, hC, hf3, hf4, hf5, hCB, hCl, hfl])) (RQ_y hR (hF.tr (hFz.mo (Or.inl rfl))) hLz ⟨hRm.fr (fun j b q1 q2 => hFz.at j b (by omega) (by omega)) (fun _ _ _ => rfl), hTz⟩)
                · simp only [HS, FRS, hC, hf3, hf4, hf5, hCB, hCl, hfl] at c4
                  rw [if_neg (by omega)] at hR
                  refine am_W.cv 2 m_Re_wrong rfl rfl rfl rfl (by and_intros <;> first | trivial | exact okI rfl rfl rfl | (refine okrI rfl rfl rfl rfl ?_ ?_ <;> (first | omega | (simp only [HS, FRS, CCS, am_R, hC, hf3, hf4, hf5, hCB, hCl, hfl] at *; omega))) | (refine okaI rfl rfl rfl rfl ?_ ?_ <;> (first | omega | (simp only [HS, FRS, CCS, am_R, hC, hf3, hf4, hf5, hCB, hCl, hfl] at *; omega))) | (first | omega | (simp only [HS, FRS, CCS, am_R, hC, hf3, hf4, hf5, hCB, hCl, hfl] at *; omega)) | (simp only [HS, FRS, CCS, hC, hf3, hf4, hf5, hCB, hCl, hfl])) (c_wrong (d + 4) L B1 B2 f aA aj (f 16 23)) ?_
                  rintro r1 h1 ⟨rfl, rfl⟩
                  refine am_W.rt rfl rfl (by and_intros <;> first | trivial | exact okI rfl rfl rfl | (refine okrI rfl rfl rfl rfl ?_ ?_ <;> (first | omega | (simp only [HS, FRS, CCS, am_R, hC, hf3, hf4, hf5, hCB, hCl, hfl] at *; omega))) | (refine okaI rfl rfl rfl rfl ?_ ?_ <;> (first | omega | (simp only [HS, FRS, CCS, am_R, hC, hf3, hf4, hf5, hCB, hCl, hfl] at *; omega))) | (first | omega | (simp only [HS, FRS, CCS, am_R, hC, hf3, hf4, hf5, hCB, hCl, hfl] at *; omega)) | (simp only [HS, FRS, CCS, hC, hf3, hf4, hf5, hCB, hCl, hfl])) (RQ_f ?_ hF hL)
                  rw [hR, t1]
              have hgra : ∀ (f : Nat → Nat → Int) (C : JT) (σ : Tk) (R : Int ⊕ (MT × Tk)), Fr r (r + 7) fi f a4' aA → LI f aA → TC f σ → (∀ j b, r < b → b < r + 7 → f j b = fA j b) → f 39 r = fA 39 r → f 43 r = fA 43 r → f 44 r = fA 44 r → f 45 r = fA 45 r → f 46 r = C.1 → (C.1 ≠ -1 → f 47 r = C.2.1) → (C.1 ≠ -1 → C.1 ≠ 1853189228 → f 48 r = C.2.2) → f 49 r = -1 → R = pb (if σ.2.1 = 26990 then pGra t σ else .inr (-1, σ)) (fun g => if g.2.2.1 = 46 then .inr ((y.2.2.1, pp.1, (0, 0, l.1), o.1, o.2.1, C, g.1), lx t g.2.2.2.2 0) else .inl (-10 - g.2.1)) → am_W (am_ev am_prog (d + 5)) T_Re_takeMapping (RQ L B1 B2 aj r (r + 7) fi a4' R (fun fi' ai' x => RepM fi' ai' r x.1 ∧ TC fi' x.2)) (133, [some (.inr (.inr 22)), some (.inr (.inr r)), some (.inr (.inr 17)), some (.inl k)], [], HH L B1 B2 f aA aj) := by
                intro f C σ R hF hL hT h1 h2 h3 h4 h5 h6 h7 h8 h9 hR
                have lf := hL.2.2.2
                obtain ⟨t1, t2, t3, t4⟩ := id hT
                refine am_W.br rfl rfl (by and_intros <;> first | trivial | exact okI rfl rfl rfl | (refine okrI rfl rfl rfl rfl ?_ ?_ <;> (first | omega | (simp only [HS, FRS, CCS, am_R, hC, hf3, hf4, hf5, hCB, hCl, hfl] at *; omega))) | (refine okaI rfl rfl rfl rfl ?_ ?_ <;> (first | omega | (simp only [HS, FRS, CCS, am_R, hC, hf3, hf4, hf5, hCB, hCl, hfl] at *; omega))) | (first | omega | (simp only [HS, FRS, CCS, am_R, hC, hf3, hf4, hf5, hCB, hCl, hfl] at *; omega)) | (simp only [HS, FRS, CCS, hC, hf3, hf4, hf5, hCB, hCl, hfl])) (fun c4 => ?_) (fun c4 => ?_)
                · simp only [HS, FRS, hC, hf3, hf4, hf5, hCB, hCl, hfl] at c4
                  rw [if_neg (by omega), pb_r] at hR
                  exact hdot f C (-1) σ R hF hL hT (hM f C (-1) h1 h2 h3 h4 h5 h6 h7 h8 h9) hR
                · simp only [HS, FRS, hC, hf3, hf4, hf5, hCB, hCl, hfl] at c4
                  rw [if_pos (by omega)] at hR
                  have hg := c_takeGraph (d + 1) L B1 B2 f aA aj r σ hp hL hT
                  rw [hF.LT (Or.inr p0), et] at hg
                  refine am_W.cv 2 m_Re_takeGraph rfl rfl rfl rfl (by and_intros <;> first | trivial | exact okI rfl rfl rfl | (refine okrI rfl rfl rfl rfl ?_ ?_ <;> (first | omega | (simp only [HS, FRS, CCS, am_R, hC, hf3, hf4, hf5, hCB, hCl, hfl] at *; omega))) | (refine okaI rfl rfl rfl rfl ?_ ?_ <;> (first | omega | (simp only [HS, FRS, CCS, am_R, hC, hf3, hf4, hf5, hCB, hCl, hfl] at *; omega))) | (first | omega | (simp only [HS, FRS, CCS, am_R, hC, hf3, hf4, hf5, hCB, hCl, hfl] at *; omega)) | (simp only [HS, FRS, CCS, hC, hf3, hf4, hf5, hCB, hCl, hfl])) hg ?_
                  rintro r1 h1' ⟨fz, az, rfl, hFz, hLz, hmz⟩
                  cases hpg : pGra t σ with
                  | inl e =>
                    rw [hpg] at hmz hR
                    obtain ⟨rfl, he⟩ := hmz
                    refine am_W.br rfl rfl (by and_intros <;> first | trivial | exact okI rfl rfl rfl | (refine okrI rfl rfl rfl rfl ?_ ?_ <;> (first | omega | (simp only [HS, FRS, CCS, am_R, hC, hf3, hf4, hf5, hCB, hCl, hfl] at *; omega))) | (refine okaI rfl rfl rfl rfl ?_ ?_ <;> (first | omega | (simp only [HS, FRS, CCS, am_R, hC, hf3, hf4, hf5, hCB, hCl, hfl] at *; omega))) | (first | omega | (simp only [HS, FRS, CCS, am_R, hC, hf3, hf4, hf5, hCB, hCl, hfl] at *; omega)) | (simp only [HS, FRS, CCS, hC, hf3, hf4, hf5, hCB, hCl, hfl])) (fun c3 => absurd rfl c3) (fun c3 => ?_)
                    exact am_W.rt rfl rfl (by and_intros <;> first | trivial | exact okI rfl rfl rfl | (refine okrI rfl rfl rfl rfl ?_ ?_ <;> (first | omega | (simp only [HS, FRS, CCS, am_R, hC, hf3, hf4, hf5, hCB, hCl, hfl] at *; omega))) | (refine okaI rfl rfl rfl rfl ?_ ?_ <;> (first | omega | (simp only [HS, FRS, CCS, am_R, hC, hf3, hf4, hf5, hCB, hCl, hfl] at *; omega))) | (first | omega | (simp only [HS, FRS, CCS, am_R, hC, hf3, hf4, hf5, hCB, hCl, hfl] at *; omega)) | (simp only [HS, FRS, CCS, hC, hf3, hf4, hf5, hCB, hCl, hfl])) (RQ_e hR (hF.tr (hFz.mo (by omega))) hLz he)
                  | inr g =>
                    rw [hpg] at hmz
                    rw [hpg, pb_r] at hR
                    obtain ⟨rfl, z1, z2, z3, z4⟩ := hmz
                    have ea : az = aA := by
                      funext c
                      by_cases hc : c = r
                      · rw [hc]; exact z3
                      · exact hFz.2.1 c (by omega)
                    subst ea
                    refine am_W.br rfl rfl (by and_intros <;> first | trivial | exact okI rfl rfl rfl | (refine okrI rfl rfl rfl rfl ?_ ?_ <;> (first | omega | (simp only [HS, FRS, CCS, am_R, hC, hf3, hf4, hf5, hCB, hCl, hfl] at *; omega))) | (refine okaI rfl rfl rfl rfl ?_ ?_ <;> (first | omega | (simp only [HS, FRS, CCS, am_R, hC, hf3, hf4, hf5, hCB, hCl, hfl] at *; omega))) | (first | omega | (simp only [HS, FRS, CCS, am_R, hC, hf3, hf4, hf5, hCB, hCl, hfl] at *; omega)) | (simp only [HS, FRS, CCS, hC, hf3, hf4, hf5, hCB, hCl, hfl])) (fun c3 => ?_) (fun c3 => absurd c3 (by decide))
                    refine hdot fz C g.1 g.2 R (hF.tr (hFz.mo (by omega))) hLz z2 (hM fz C g.1 ?_ ?_ ?_ ?_ ?_ ?_ ?_ ?_ z1) hR
                    · intro j b q1 q2
                      rw [hFz.at j b (by omega) (by omega)]
                      exact h1 j b q1 q2
                    · rw [z4 39 (by decide)]; exact h2
                    · rw [z4 43 (by decide)]; exact h3
                    · rw [z4 44 (by decide)]; exact h4
                    · rw [z4 45 (by decide)]; exact h5
                    · rw [z4 46 (by decide)]; exact h6
                    · rw [z4 47 (by decide)]; exact h7
                    · rw [z4 48 (by decide)]; exact h8
              have lA := hLA.2.2.2
              have tA := hTA.2.1
              refine am_W.br rfl rfl (by and_intros <;> first | trivial | exact okI rfl rfl rfl | (refine okrI rfl rfl rfl rfl ?_ ?_ <;> (first | omega | (simp only [HS, FRS, CCS, am_R, hC, hf3, hf4, hf5, hCB, hCl, hfl] at *; omega))) | (refine okaI rfl rfl rfl rfl ?_ ?_ <;> (first | omega | (simp only [HS, FRS, CCS, am_R, hC, hf3, hf4, hf5, hCB, hCl, hfl] at *; omega))) | (first | omega | (simp only [HS, FRS, CCS, am_R, hC, hf3, hf4, hf5, hCB, hCl, hfl] at *; omega)) | (simp only [HS, FRS, CCS, hC, hf3, hf4, hf5, hCB, hCl, hfl])) (fun c4 => ?_) (fun c4 => ?_)
              · simp only [HS, FRS, hC, hf3, hf4, hf5, hCB, hCl, hfl] at c4
                rw [if_neg (by omega), pb_r]
                exact hgra fA (-1, 0, 0) o.2.2 _ dA hLA hTA (fun _ _ _ _ => rfl) rfl rfl rfl rfl x46 (fun q => absurd rfl q) (fun q => absurd rfl q) x49 rfl
              · simp only [HS, FRS, hC, hf3, hf4, hf5, hCB, hCl, hfl] at c4
                rw [if_pos (by omega)]
                have hc := c_takeCondition (d + 1) L B1 B2 fA aA aj r k o.2.2 hp hkR hLA hTA
                rw [dA.LT (Or.inr p0), et] at hc
                refine am_W.cv 2 m_Re_takeCondition rfl rfl rfl rfl (by and_intros <;> first | trivial | exact okI rfl rfl rfl | (refine okrI rfl rfl rfl rfl ?_ ?_ <;> (first | omega | (simp only [HS, FRS, CCS, am_R, hC, hf3, hf4, hf5, hCB, hCl, hfl] at *; omega))) | (refine okaI rfl rfl rfl rfl ?_ ?_ <;> (first | omega | (simp only [HS, FRS, CCS, am_R, hC, hf3, hf4, hf5, hCB, hCl, hfl] at *; omega))) | (first | omega | (simp only [HS, FRS, CCS, am_R, hC, hf3, hf4, hf5, hCB, hCl, hfl] at *; omega)) | (simp only [HS, FRS, CCS, hC, hf3, hf4, hf5, hCB, hCl, hfl])) hc ?_
                rintro r1 h1' ⟨fz, az, rfl, hFz, hLz, hmz⟩
                cases hpc' : pCond t k o.2.2 with
                | inl e =>
                  rw [hpc'] at hmz
                  obtain ⟨rfl, he⟩ := hmz
                  refine am_W.br rfl rfl (by and_intros <;> first | trivial | exact okI rfl rfl rfl | (refine okrI rfl rfl rfl rfl ?_ ?_ <;> (first | omega | (simp only [HS, FRS, CCS, am_R, hC, hf3, hf4, hf5, hCB, hCl, hfl] at *; omega))) | (refine okaI rfl rfl rfl rfl ?_ ?_ <;> (first | omega | (simp only [HS, FRS, CCS, am_R, hC, hf3, hf4, hf5, hCB, hCl, hfl] at *; omega))) | (first | omega | (simp only [HS, FRS, CCS, am_R, hC, hf3, hf4, hf5, hCB, hCl, hfl] at *; omega)) | (simp only [HS, FRS, CCS, hC, hf3, hf4, hf5, hCB, hCl, hfl])) (fun c3 => absurd rfl c3) (fun c3 => ?_)
                  exact am_W.rt rfl rfl (by and_intros <;> first | trivial | exact okI rfl rfl rfl | (refine okrI rfl rfl rfl rfl ?_ ?_ <;> (first | omega | (simp only [HS, FRS, CCS, am_R, hC, hf3, hf4, hf5, hCB, hCl, hfl] at *; omega))) | (refine okaI rfl rfl rfl rfl ?_ ?_ <;> (first | omega | (simp only [HS, FRS, CCS, am_R, hC, hf3, hf4, hf5, hCB, hCl, hfl] at *; omega))) | (first | omega | (simp only [HS, FRS, CCS, am_R, hC, hf3, hf4, hf5, hCB, hCl, hfl] at *; omega)) | (simp only [HS, FRS, CCS, hC, hf3, hf4, hf5, hCB, hCl, hfl])) (RQ_e rfl (dA.tr (hFz.mo (by omega))) hLz he)
                | inr c =>
                  rw [hpc'] at hmz
                  rw [pb_r]
                  obtain ⟨rfl, z1, z2, z3, z4, z5, z6⟩ := hmz
                  have ea : az = aA := by
                    funext c
                    by_cases hc : c = r
                    · rw [hc]; exact z5
                    · exact hFz.2.1 c (by omega)
                  subst ea
                  refine am_W.br rfl rfl (by and_intros <;> first | trivial | exact okI rfl rfl rfl | (refine okrI rfl rfl rfl rfl ?_ ?_ <;> (first | omega | (simp only [HS, FRS, CCS, am_R, hC, hf3, hf4, hf5, hCB, hCl, hfl] at *; omega))) | (refine okaI rfl rfl rfl rfl ?_ ?_ <;> (first | omega | (simp only [HS, FRS, CCS, am_R, hC, hf3, hf4, hf5, hCB, hCl, hfl] at *; omega))) | (first | omega | (simp only [HS, FRS, CCS, am_R, hC, hf3, hf4, hf5, hCB, hCl, hfl] at *; omega)) | (simp only [HS, FRS, CCS, hC, hf3, hf4, hf5, hCB, hCl, hfl])) (fun c3 => ?_) (fun c3 => absurd c3 (by decide))
                  refine hgra fz c.1 c.2 _ (dA.tr (hFz.mo (by omega))) hLz z4 ?_ (z6 39 (by decide) (by decide) (by decide)) (z6 43 (by decide) (by decide) (by decide)) (z6 44 (by decide) (by decide) (by decide)) (z6 45 (by decide) (by decide) (by decide)) z1 (fun _ => z2) (fun _ q => z3 q) ?_ rfl
                  · intro j b q1 q2
                    exact hFz.at j b (by omega) (by omega)
                  · rw [z6 49 (by decide) (by decide) (by decide)]
                    exact x49
def RepL (fi : Nat → Nat → Int) (ai : Nat → Int → Int) (B : Nat) (l : List MT) : Prop := fi 38 B = (l.length : Int) ∧ ∀ (i : Nat) (x : MT), l[i]? = some x → RepM fi ai (B + 2 + 7 * i) x
def AQ (L B1 B2 : Nat) (aj : Nat → Int → Int) (B : Nat) (fi : Nat → Nat → Int) (ai : Nat → Int → Int) (R : Int ⊕ List MT) : Option am_V → am_H → Prop := fun w h' => ∃ fi' ai', h' = HH L B1 B2 fi' ai' aj ∧ Fr B (B + 44) fi fi' ai ai' ∧ LI fi' ai' ∧ (match R with
  | .inl e => w = some (.inl e)
  | .inr l => w = some (.inl (l.length : Int)) ∧ RepL fi' ai' B l)
theorem Fr_B {B : Nat} {j : Nat} {fi : Nat → Nat → Int} {ai : Nat → Int → Int} {x : Int} (h : 24 < B) : Fr B (B + 44) fi (am_u2 fi j B x) ai ai := ⟨fun _ _ _ _ q => u2a (by omega), fun _ _ => rfl, u2a (by omega)⟩
theorem LI_B {B : Nat} {j : Nat} {fi : Nat → Nat → Int} {ai : Nat → Int → Int} {x : Int} (h : 24 < B) (hL : LI fi ai) : LI (am_u2 fi j B x) ai := by
  unfold LI
  rw [u2a (by omega), u2a (by omega), u2a (by omega), u2a (by omega), u2a (by omega)]
  exact hL
theorem TC_B {j r : Nat} {fi : Nat → Nat → Int} {x : Int} {σ : Tk} (h : 24 < r) (hT : TC fi σ) : TC (am_u2 fi j r x) σ := by
  unfold TC
  rw [u2a (by omega), u2a (by omega), u2a (by omega), u2a (by omega)]
  exact hT
theorem Fr.D' {lo hi : Nat} {fi fi' : Nat → Nat → Int} {ai ai' : Nat → Int → Int} (h : Fr lo hi fi fi' ai ai') (hl : 24 < lo) : DD fi' ai' = DD fi ai := by
  unfold DD
  rw [h.1 10 17 (by decide) (by decide) (by omega), h.2.1 18 (by omega), h.2.1 19 (by omega), h.2.1 20 (by omega), h.2.1 21 (by omega)]
theorem Fr.LT' {lo hi : Nat} {fi fi' : Nat → Nat → Int} {ai ai' : Nat → Int → Int} (h : Fr lo hi fi fi' ai ai') (hl : 24 < lo) : tx (fi' 14 23) (ai' 24) = tx (fi 14 23) (ai 24) := by
  rw [h.2.2, h.2.1 24 (by omega)]
set_option maxHeartbeats 400000 in
set_option maxRecDepth 100000 in
theorem l_readAll (d L B1 B2 : Nat) (fi : Nat → Nat → Int) (ai aj : Nat → Int → Int) (B : Nat) (hB : B = 38 ∨ B = 82) (hI : DI (DD fi ai)) (t : Int → Int) (et : tx (fi 14 23) (ai 24) = t) (R : Int ⊕ List MT) : ∀ (k : Nat) (i : Int) (l : List MT) (f : Nat → Nat → Int) (a : Nat → Int → Int) (σ : Tk), l.length + k = 6 → i = (l.length : Int) → Fr B (B + 44) fi f ai a → LI f a → TC f σ → RepL f a B l → R = pAll t (DD fi ai) k σ l → am_W (am_ev am_prog (d + 6)) T_Re_readAll (AQ L B1 B2 aj B fi ai R) (14, [some (.inr (.inr 22)), some (.inr (.inr 17)), some (.inr (.inr B)), some (.inl i)], [], HH L B1 B2 f a aj) := by
  obtain ⟨hMa, hAr, hCB, hCl, hfl⟩ := MapAt_all L B1 B2 B 0 hB (by decide)
  have hC : True := trivial
  have hf3 : True := trivial
  have hf4 : True := trivial
  have hf5 : True := trivial
  have hB0 : 24 < B ∧ B < 100 := by omega
  have hend : ∀ (k : Nat) (i : Int) (l : List MT) (f : Nat → Nat → Int) (a : Nat → Int → Int) (σ : Tk), Fr B (B + 44) fi f ai a → LI f a → TC f σ → RepL f a B l → (¬ σ.2.1 = 7168368 ∨ k = 0) → R = pAll t (DD fi ai) k σ l → am_W (am_ev am_prog (d + 6)) T_Re_readAll (AQ L B1 B2 aj B fi ai R) (64, [some (.inr (.inr 22)), some (.inr (.inr 17)), some (.inr (.inr B)), some (.inl i)], [], HH L B1 B2 f a aj) := by
    intro k i l f a σ hF hL hT hRl hk hR
    have lf := hL.2.2.2
    obtain ⟨t1, t2, t3, t4⟩ := id hT
    have hR2 : R = if σ.2.1 = 7168368 then .inl (-1000 - σ.1) else if σ.2.1 = -1 then .inr l else .inl (-10 - σ.1) := by
      rw [hR]
      cases k with
      | zero => rfl
      | succ k =>
        rcases hk with hk | hk
        · rw [pAll, if_neg hk, if_neg hk]
        · exact absurd hk (by omega)
    refine am_W.br rfl rfl (by and_intros <;> first | trivial | exact okI rfl rfl rfl | (refine okrI rfl rfl rfl rfl ?_ ?_ <;> (first | omega | (simp only [HS, FRS, CCS, am_R, hC, hf3, hf4, hf5, hCB, hCl, hfl] at *; omega))) | (refine okaI rfl rfl rfl rfl ?_ ?_ <;> (first | omega | (simp only [HS, FRS, CCS, am_R, hC, hf3, hf4, hf5, hCB, hCl, hfl] at *; omega))) | (first | omega | (simp only [HS, FRS, CCS, am_R, hC, hf3, hf4, hf5, hCB, hCl, hfl] at *; omega)) | (simp only [HS, FRS, CCS, hC, hf3, hf4, hf5, hCB, hCl, hfl])) (fun c1 => ?_) (fun c1 => ?_)
    · simp only [HS, FRS, hC, hf3, hf4, hf5, hCB, hCl, hfl] at c1
      refine am_W.br rfl rfl (by and_intros <;> first | trivial | exact okI rfl rfl rfl | (refine okrI rfl rfl rfl rfl ?_ ?_ <;> (first | omega | (simp only [HS, FRS, CCS, am_R, hC, hf3, hf4, hf5, hCB, hCl, hfl] at *; omega))) | (refine okaI rfl rfl rfl rfl ?_ ?_ <;> (first | omega | (simp only [HS, FRS, CCS, am_R, hC, hf3, hf4, hf5, hCB, hCl, hfl] at *; omega))) | (first | omega | (simp only [HS, FRS, CCS, am_R, hC, hf3, hf4, hf5, hCB, hCl, hfl] at *; omega)) | (simp only [HS, FRS, CCS, hC, hf3, hf4, hf5, hCB, hCl, hfl])) (fun c2 => ?_) (fun c2 => ?_)
      · simp only [HS, FRS, hC, hf3, hf4, hf5, hCB, hCl, hfl] at c2
        rw [if_neg (by omega), if_neg (by omega)] at hR2
        refine am_W.rt rfl rfl (by and_intros <;> first | trivial | exact okI rfl rfl rfl | (refine okrI rfl rfl rfl rfl ?_ ?_ <;> (first | omega | (simp only [HS, FRS, CCS, am_R, hC, hf3, hf4, hf5, hCB, hCl, hfl] at *; omega))) | (refine okaI rfl rfl rfl rfl ?_ ?_ <;> (first | omega | (simp only [HS, FRS, CCS, am_R, hC, hf3, hf4, hf5, hCB, hCl, hfl] at *; omega))) | (first | omega | (simp only [HS, FRS, CCS, am_R, hC, hf3, hf4, hf5, hCB, hCl, hfl] at *; omega)) | (simp only [HS, FRS, CCS, hC, hf3, hf4, hf5, hCB, hCl, hfl])) ⟨f, a, rfl, hF, hL, ?_⟩
        rw [hR2]
        simp only [HS, FRS, hC, hf3, hf4, hf5, hCB, hCl, hfl]
        rw [t1]
      · simp only [HS, FRS, hC, hf3, hf4, hf5, hCB, hCl, hfl] at c2
        rw [if_pos (by omega)] at hR2
        refine am_W.rt rfl rfl (by and_intros <;> first | trivial | exact okI rfl rfl rfl | (refine okrI rfl rfl rfl rfl ?_ ?_ <;> (first | omega | (simp only [HS, FRS, CCS, am_R, hC, hf3, hf4, hf5, hCB, hCl, hfl] at *; omega))) | (refine okaI rfl rfl rfl rfl ?_ ?_ <;> (first | omega | (simp only [HS, FRS, CCS, am_R, hC, hf3, hf4, hf5, hCB, hCl, hfl] at *; omega))) | (first | omega | (simp only [HS, FRS, CCS, am_R, hC, hf3, hf4, hf5, hCB, hCl, hfl] at *; omega)) | (simp only [HS, FRS, CCS, hC, hf3, hf4, hf5, hCB, hCl, hfl])) ⟨f, a, rfl, hF, hL, ?_⟩
        rw [hR2]
        simp only [HS, FRS, hC, hf3, hf4, hf5, hCB, hCl, hfl]
        rw [t1]
    · simp only [HS, FRS, hC, hf3, hf4, hf5, hCB, hCl, hfl] at c1
      rw [if_neg (by omega), if_pos (by omega)] at hR2
      refine am_W.rt rfl rfl (by and_intros <;> first | trivial | exact okI rfl rfl rfl | (refine okrI rfl rfl rfl rfl ?_ ?_ <;> (first | omega | (simp only [HS, FRS, CCS, am_R, hC, hf3, hf4, hf5, hCB, hCl, hfl] at *; omega))) | (refine okaI rfl rfl rfl rfl ?_ ?_ <;> (first | omega | (simp only [HS, FRS, CCS, am_R, hC, hf3, hf4, hf5, hCB, hCl, hfl] at *; omega))) | (first | omega | (simp only [HS, FRS, CCS, am_R, hC, hf3, hf4, hf5, hCB, hCl, hfl] at *; omega)) | (simp only [HS, FRS, CCS, hC, hf3, hf4, hf5, hCB, hCl, hfl])) ⟨f, a, rfl, hF, hL, ?_⟩
      rw [hR2]
      refine ⟨?_, hRl⟩
      simp only [HS, FRS, hC, hf3, hf4, hf5, hCB, hCl, hfl]
      rw [hRl.1]
  intro k
  induction k with
  | zero =>
    intro i l f a σ hk hi hF hL hT hRl hR
    refine am_W.br rfl rfl (by and_intros <;> first | trivial | exact okI rfl rfl rfl | (refine okrI rfl rfl rfl rfl ?_ ?_ <;> (first | omega | (simp only [HS, FRS, CCS, am_R, hC, hf3, hf4, hf5, hCB, hCl, hfl] at *; omega))) | (refine okaI rfl rfl rfl rfl ?_ ?_ <;> (first | omega | (simp only [HS, FRS, CCS, am_R, hC, hf3, hf4, hf5, hCB, hCl, hfl] at *; omega))) | (first | omega | (simp only [HS, FRS, CCS, am_R, hC, hf3, hf4, hf5, hCB, hCl, hfl] at *; omega)) | (simp only [HS, FRS, CCS, hC, hf3, hf4, hf5, hCB, hCl, hfl])) (fun c1 => hend 0 i l f a σ hF hL hT hRl (Or.inr rfl) hR) (fun c1 => absurd c1 (by omega))
  | succ k ih =>
    intro i l f a σ hk hi hF hL hT hRl hR
    have lf := hL.2.2.2
    obtain ⟨t1, t2, t3, t4⟩ := id hT
    refine am_W.br rfl rfl (by and_intros <;> first | trivial | exact okI rfl rfl rfl | (refine okrI rfl rfl rfl rfl ?_ ?_ <;> (first | omega | (simp only [HS, FRS, CCS, am_R, hC, hf3, hf4, hf5, hCB, hCl, hfl] at *; omega))) | (refine okaI rfl rfl rfl rfl ?_ ?_ <;> (first | omega | (simp only [HS, FRS, CCS, am_R, hC, hf3, hf4, hf5, hCB, hCl, hfl] at *; omega))) | (first | omega | (simp only [HS, FRS, CCS, am_R, hC, hf3, hf4, hf5, hCB, hCl, hfl] at *; omega)) | (simp only [HS, FRS, CCS, hC, hf3, hf4, hf5, hCB, hCl, hfl])) (fun c1 => absurd c1 (by omega)) (fun c1 => ?_)
    refine am_W.br rfl rfl (by and_intros <;> first | trivial | exact okI rfl rfl rfl | (refine okrI rfl rfl rfl rfl ?_ ?_ <;> (first | omega | (simp only [HS, FRS, CCS, am_R, hC, hf3, hf4, hf5, hCB, hCl, hfl] at *; omega))) | (refine okaI rfl rfl rfl rfl ?_ ?_ <;> (first | omega | (simp only [HS, FRS, CCS, am_R, hC, hf3, hf4, hf5, hCB, hCl, hfl] at *; omega))) | (first | omega | (simp only [HS, FRS, CCS, am_R, hC, hf3, hf4, hf5, hCB, hCl, hfl] at *; omega)) | (simp only [HS, FRS, CCS, hC, hf3, hf4, hf5, hCB, hCl, hfl])) (fun c2 => hend (k + 1) i l f a σ hF hL hT hRl (Or.inl (by simp only [HS, FRS, hC, hf3, hf4, hf5, hCB, hCl, hfl] at c2; omega)) hR) (fun c2 => ?_)
    simp only [HS, FRS, hC, hf3, hf4, hf5, hCB, hCl, hfl] at c2
    rw [pAll, if_pos (by omega)] at hR
    obtain ⟨hMi, hAi, -, -, -⟩ := MapAt_all L B1 B2 B l.length hB (by omega)
    have hD := hF.D' hB0.1
    have hc := c_takeMapping d L B1 B2 f a aj (B + 2 + 7 * l.length) σ.2.2.2 hMi hL (by rw [hD]; exact hI) t4
    rw [hF.LT' hB0.1, et, hD] at hc
    have ear : am_ar (HH L B1 B2 f a aj) (am_fr (HH L B1 B2 f a aj) 37 B) i = B + 2 + 7 * l.length := by
      simp only [HS, hfl]
      rw [hi]
      exact hAi
    refine am_W.cv 2 m_Re_takeMapping rfl rfl rfl rfl (by and_intros <;> first | trivial | exact okI rfl rfl rfl | (refine okrI rfl rfl rfl rfl ?_ ?_ <;> (first | omega | (simp only [HS, FRS, CCS, am_R, hC, hf3, hf4, hf5, hCB, hCl, hfl] at *; omega))) | (refine okaI rfl rfl rfl rfl ?_ ?_ <;> (first | omega | (simp only [HS, FRS, CCS, am_R, hC, hf3, hf4, hf5, hCB, hCl, hfl] at *; omega))) | (first | omega | (simp only [HS, FRS, CCS, am_R, hC, hf3, hf4, hf5, hCB, hCl, hfl] at *; omega)) | (simp only [HS, FRS, CCS, hC, hf3, hf4, hf5, hCB, hCl, hfl])) (by rw [ear]; exact hc) ?_
    rintro r1 h1 ⟨f2, a2, rfl, hF2, hL2, hm2⟩
    have hFn : Fr B (B + 44) fi f2 ai a2 := hF.tr (hF2.mo (by omega))
    cases hpm : pMap t (DD fi ai) σ.2.2.2 with
    | inl e =>
      rw [hpm] at hm2 hR
      obtain ⟨rfl, he⟩ := hm2
      refine am_W.br rfl rfl (by and_intros <;> first | trivial | exact okI rfl rfl rfl | (refine okrI rfl rfl rfl rfl ?_ ?_ <;> (first | omega | (simp only [HS, FRS, CCS, am_R, hC, hf3, hf4, hf5, hCB, hCl, hfl] at *; omega))) | (refine okaI rfl rfl rfl rfl ?_ ?_ <;> (first | omega | (simp only [HS, FRS, CCS, am_R, hC, hf3, hf4, hf5, hCB, hCl, hfl] at *; omega))) | (first | omega | (simp only [HS, FRS, CCS, am_R, hC, hf3, hf4, hf5, hCB, hCl, hfl] at *; omega)) | (simp only [HS, FRS, CCS, hC, hf3, hf4, hf5, hCB, hCl, hfl])) (fun c3 => absurd rfl c3) (fun c3 => ?_)
      refine am_W.rt rfl rfl (by and_intros <;> first | trivial | exact okI rfl rfl rfl | (refine okrI rfl rfl rfl rfl ?_ ?_ <;> (first | omega | (simp only [HS, FRS, CCS, am_R, hC, hf3, hf4, hf5, hCB, hCl, hfl] at *; omega))) | (refine okaI rfl rfl rfl rfl ?_ ?_ <;> (first | omega | (simp only [HS, FRS, CCS, am_R, hC, hf3, hf4, hf5, hCB, hCl, hfl] at *; omega))) | (first | omega | (simp only [HS, FRS, CCS, am_R, hC, hf3, hf4, hf5, hCB, hCl, hfl] at *; omega)) | (simp only [HS, FRS, CCS, hC, hf3, hf4, hf5, hCB, hCl, hfl])) ⟨f2, a2, rfl, hFn, hL2, ?_⟩
      rw [hR, pb_l]
      simp only [HS, FRS, hC, hf3, hf4, hf5, hCB, hCl, hfl]
      rw [he]
    | inr x =>
      rw [hpm] at hm2
      rw [hpm, pb_r] at hR
      obtain ⟨rfl, m1, m2⟩ := hm2
      refine am_W.br rfl rfl (by and_intros <;> first | trivial | exact okI rfl rfl rfl | (refine okrI rfl rfl rfl rfl ?_ ?_ <;> (first | omega | (simp only [HS, FRS, CCS, am_R, hC, hf3, hf4, hf5, hCB, hCl, hfl] at *; omega))) | (refine okaI rfl rfl rfl rfl ?_ ?_ <;> (first | omega | (simp only [HS, FRS, CCS, am_R, hC, hf3, hf4, hf5, hCB, hCl, hfl] at *; omega))) | (first | omega | (simp only [HS, FRS, CCS, am_R, hC, hf3, hf4, hf5, hCB, hCl, hfl] at *; omega)) | (simp only [HS, FRS, CCS, hC, hf3, hf4, hf5, hCB, hCl, hfl])) (fun c3 => ?_) (fun c3 => absurd c3 (by decide))
      refine am_W.gp 14 rfl (by and_intros <;> first | trivial | exact okI rfl rfl rfl | (refine okrI rfl rfl rfl rfl ?_ ?_ <;> (first | omega | (simp only [HS, FRS, CCS, am_R, hC, hf3, hf4, hf5, hCB, hCl, hfl] at *; omega))) | (refine okaI rfl rfl rfl rfl ?_ ?_ <;> (first | omega | (simp only [HS, FRS, CCS, am_R, hC, hf3, hf4, hf5, hCB, hCl, hfl] at *; omega))) | (first | omega | (simp only [HS, FRS, CCS, am_R, hC, hf3, hf4, hf5, hCB, hCl, hfl] at *; omega)) | (simp only [HS, FRS, CCS, hC, hf3, hf4, hf5, hCB, hCl, hfl])) ?_
      simp only [HS, FRS, hC, hf3, hf4, hf5, hCB, hCl, hfl]
      refine ih (i + 1) (l ++ [x.1]) (am_u2 f2 38 B (i + 1)) a2 x.2 ?_ ?_ (hFn.tr (Fr_B hB0.1)) (LI_B hB0.1 hL2) (TC_B hB0.1 m2) ⟨?_, ?_⟩ hR
      · rw [List.length_append, List.length_singleton]
        omega
      · rw [List.length_append, List.length_singleton]
        omega
      · rw [List.length_append, List.length_singleton, u2s]
        omega
      · intro j z hz
        by_cases hj : j < l.length
        · rw [List.getElem?_append_left hj] at hz
          refine (hRl.2 j z hz).fr (fun c b q1 q2 => ?_) (fun b q1 q2 => ?_)
          · rw [u2a (by omega), hF2.at c b (by omega) (by omega)]
          · exact hF2.2.1 b (by omega)
        · rw [List.getElem?_append_right (by omega)] at hz
          have hj2 : j = l.length := by
            rcases Nat.eq_or_lt_of_le (Nat.le_of_not_lt hj) with h | h
            · exact h.symm
            · rw [List.getElem?_eq_none (by rw [List.length_singleton]; omega)] at hz
              cases hz
          subst hj2
          rw [Nat.sub_self] at hz
          cases hz
          exact m1.fr (fun c b q1 q2 => u2a (by omega)) (fun _ _ _ => rfl)
set_option maxHeartbeats 400000 in
set_option maxRecDepth 100000 in
theorem c_readAll (d L B1 B2 : Nat) (fi : Nat → Nat → Int) (ai aj : Nat → Int → Int) (B : Nat) (hB : B = 38 ∨ B = 82) (hI : DI (DD fi ai)) (hL : LI fi ai) : am_M am_prog (d + 7) m_Re_readAll [.inr (.inr 22), .inr (.inr 17), .inr (.inr B)] (HH L B1 B2 fi ai aj) (AQ L B1 B2 aj B fi ai (pAll (tx (fi 14 23) (ai 24)) (DD fi ai) 6 (lx (tx (fi 14 23) (ai 24)) (fi 15 23) 0) [])) := by
  obtain ⟨hMa, hAr, hCB, hCl, hfl⟩ := MapAt_all L B1 B2 B 0 hB (by decide)
  have hC : True := trivial
  have hf3 : True := trivial
  have hf4 : True := trivial
  have hf5 : True := trivial
  have hB0 : 24 < B ∧ B < 100 := by omega
  refine am_W.of rfl rfl ?_
  refine am_W.cv 3 m_To_next rfl rfl rfl rfl (by and_intros <;> first | trivial | exact okI rfl rfl rfl | (refine okrI rfl rfl rfl rfl ?_ ?_ <;> (first | omega | (simp only [HS, FRS, CCS, am_R, hC, hf3, hf4, hf5, hCB, hCl, hfl] at *; omega))) | (refine okaI rfl rfl rfl rfl ?_ ?_ <;> (first | omega | (simp only [HS, FRS, CCS, am_R, hC, hf3, hf4, hf5, hCB, hCl, hfl] at *; omega))) | (first | omega | (simp only [HS, FRS, CCS, am_R, hC, hf3, hf4, hf5, hCB, hCl, hfl] at *; omega)) | (simp only [HS, FRS, CCS, hC, hf3, hf4, hf5, hCB, hCl, hfl])) (c_nxT (d + 4) L B1 B2 (am_u2 fi 38 B 0) ai aj (tx (fi 14 23) (ai 24)) (fi 15 23) (LI_B hB0.1 hL) (by rw [u2a (by omega)]) (u2a (by omega))) ?_
  rintro r1 h1 ⟨rfl, f1, rfl, hF1, hL1, hT1⟩
  refine am_W.gp 14 rfl (by and_intros <;> first | trivial | exact okI rfl rfl rfl | (refine okrI rfl rfl rfl rfl ?_ ?_ <;> (first | omega | (simp only [HS, FRS, CCS, am_R, hC, hf3, hf4, hf5, hCB, hCl, hfl] at *; omega))) | (refine okaI rfl rfl rfl rfl ?_ ?_ <;> (first | omega | (simp only [HS, FRS, CCS, am_R, hC, hf3, hf4, hf5, hCB, hCl, hfl] at *; omega))) | (first | omega | (simp only [HS, FRS, CCS, am_R, hC, hf3, hf4, hf5, hCB, hCl, hfl] at *; omega)) | (simp only [HS, FRS, CCS, hC, hf3, hf4, hf5, hCB, hCl, hfl])) (l_readAll d L B1 B2 fi ai aj B hB hI _ rfl _ 6 0 [] f1 ai _ rfl rfl ((Fr_B hB0.1).tr (hF1.mo (Or.inl rfl))) hL1 hT1 ⟨?_, fun i x hx => by simp at hx⟩ rfl)
  rw [hF1.1 38 B (by omega) (by omega) (by omega), u2s]
  rfl
