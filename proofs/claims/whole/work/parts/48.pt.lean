-- the class's parts
def PartAt (L B1 B2 p : Nat) : Prop := 40 ≤ p ∧ p + 1 < 126 ∧ CC L p = (9, 0) ∧ CC L (p + 1) = (1000, 30) ∧ FRR B1 B2 52 p = p + 1
def MapAt (L B1 B2 r : Nat) : Prop := 40 ≤ r ∧ r + 6 < 126 ∧ CC L r = (8, 0) ∧ FRR B1 B2 40 r = r + 1 ∧ FRR B1 B2 41 r = r + 3 ∧ FRR B1 B2 42 r = r + 5 ∧ PartAt L B1 B2 (r + 1) ∧ PartAt L B1 B2 (r + 3) ∧ PartAt L B1 B2 (r + 5)
theorem MapAt_all (L B1 B2 B i : Nat) (hB : B = 38 ∨ B = 82) (hi : i < 6) : MapAt L B1 B2 (B + 2 + 7 * i) ∧ ARR (B + 1) (i : Int) = B + 2 + 7 * i ∧ CC L B = (7, 0) ∧ CC L (B + 1) = (1004, 6) ∧ FRR B1 B2 37 B = B + 1 := by
  have h6 : i = 0 ∨ i = 1 ∨ i = 2 ∨ i = 3 ∨ i = 4 ∨ i = 5 := by omega
  rcases hB with rfl | rfl <;> rcases h6 with rfl | rfl | rfl | rfl | rfl | rfl <;> exact ⟨⟨by decide, by decide, rfl, rfl, rfl, rfl, ⟨by decide, by decide, rfl, rfl, rfl⟩, ⟨by decide, by decide, rfl, rfl, rfl⟩, ⟨by decide, by decide, rfl, rfl, rfl⟩⟩, rfl, rfl, rfl, rfl⟩
set_option maxHeartbeats 400000 in
set_option maxRecDepth 100000 in
theorem c_Pa_addPiece (d L B1 B2 : Nat) (fi : Nat → Nat → Int) (ai aj : Nat → Int → Int) (p : Nat) (x : Int) (hp : PartAt L B1 B2 p) (hc : 0 ≤ fi 53 p ∧ fi 53 p < 30) : am_M am_prog (d + 1) m_Pa_addPiece [.inr (.inr p), .inl x] (HH L B1 B2 fi ai aj) (fun w h' => w = none ∧ h' = HH L B1 B2 (am_u2 fi 53 p (fi 53 p + 1)) (am_sa ai (p + 1) (up (ai (p + 1)) (fi 53 p) x)) aj) := by
  obtain ⟨p0, p1, hC, hCq, hfr⟩ := hp
  have tkp : True := trivial
  refine am_W.of rfl rfl ?_
  refine am_W.br rfl rfl (by and_intros <;> first | trivial | exact okI rfl rfl rfl | (refine okrI rfl rfl rfl rfl ?_ ?_ <;> (first | omega | (simp only [HS, FRS, CCS, am_R, TKS, TKU, hC, hCq, hfr, tkp] at *; omega))) | (refine okaI rfl rfl rfl rfl ?_ ?_ <;> (first | omega | (simp only [HS, FRS, CCS, am_R, TKS, TKU, hC, hCq, hfr, tkp] at *; omega))) | (first | omega | (simp only [HS, FRS, CCS, am_R, TKS, TKU, hC, hCq, hfr, tkp] at *; omega)) | (simp only [HS, FRS, CCS, TKS, TKU, hC, hCq, hfr, tkp])) (fun c1 => absurd c1 (by simp only [HS]; omega)) (fun c1 => ?_)
  refine am_W.rt rfl rfl (by and_intros <;> first | trivial | exact okI rfl rfl rfl | (refine okrI rfl rfl rfl rfl ?_ ?_ <;> (first | omega | (simp only [HS, FRS, CCS, am_R, TKS, TKU, hC, hCq, hfr, tkp] at *; omega))) | (refine okaI rfl rfl rfl rfl ?_ ?_ <;> (first | omega | (simp only [HS, FRS, CCS, am_R, TKS, TKU, hC, hCq, hfr, tkp] at *; omega))) | (first | omega | (simp only [HS, FRS, CCS, am_R, TKS, TKU, hC, hCq, hfr, tkp] at *; omega)) | (simp only [HS, FRS, CCS, TKS, TKU, hC, hCq, hfr, tkp])) ⟨rfl, ?_⟩
  simp only [HS, hfr, u2_sa]
set_option maxHeartbeats 400000 in
set_option maxRecDepth 100000 in
theorem c_needsEscape (d : Nat) (x : Int) (h : am_H) (hx : am_R x) : am_M am_prog (d + 1) m_MT_needsEscape [.inl x] h (fun v h' => v = some (.inl (if esc x then 1 else 0)) ∧ h' = h) := by
  have hC : True := trivial
  have hCq : True := trivial
  have hfr : True := trivial
  have tkp : True := trivial
  refine am_W.of rfl rfl ?_
  have hy : esc x → am_W (am_ev am_prog d) T_MT_needsEscape (fun v h' => v = some (.inl (if esc x then 1 else 0)) ∧ h' = h) (24, [some (.inl x)], [], h) := by
    intro q
    rw [if_pos q]
    exact am_W.rt rfl rfl (by and_intros <;> first | trivial | exact okI rfl rfl rfl | (refine okrI rfl rfl rfl rfl ?_ ?_ <;> (first | omega | (simp only [HS, FRS, CCS, am_R, TKS, TKU, hC, hCq, hfr, tkp] at *; omega))) | (refine okaI rfl rfl rfl rfl ?_ ?_ <;> (first | omega | (simp only [HS, FRS, CCS, am_R, TKS, TKU, hC, hCq, hfr, tkp] at *; omega))) | (first | omega | (simp only [HS, FRS, CCS, am_R, TKS, TKU, hC, hCq, hfr, tkp] at *; omega)) | (simp only [HS, FRS, CCS, TKS, TKU, hC, hCq, hfr, tkp])) ⟨rfl, rfl⟩
  refine am_W.br rfl rfl (by and_intros <;> first | trivial | exact okI rfl rfl rfl | (refine okrI rfl rfl rfl rfl ?_ ?_ <;> (first | omega | (simp only [HS, FRS, CCS, am_R, TKS, TKU, hC, hCq, hfr, tkp] at *; omega))) | (refine okaI rfl rfl rfl rfl ?_ ?_ <;> (first | omega | (simp only [HS, FRS, CCS, am_R, TKS, TKU, hC, hCq, hfr, tkp] at *; omega))) | (first | omega | (simp only [HS, FRS, CCS, am_R, TKS, TKU, hC, hCq, hfr, tkp] at *; omega)) | (simp only [HS, FRS, CCS, TKS, TKU, hC, hCq, hfr, tkp])) (fun c1 => hy (by omega)) (fun c1 => ?_)
  refine am_W.br rfl rfl (by and_intros <;> first | trivial | exact okI rfl rfl rfl | (refine okrI rfl rfl rfl rfl ?_ ?_ <;> (first | omega | (simp only [HS, FRS, CCS, am_R, TKS, TKU, hC, hCq, hfr, tkp] at *; omega))) | (refine okaI rfl rfl rfl rfl ?_ ?_ <;> (first | omega | (simp only [HS, FRS, CCS, am_R, TKS, TKU, hC, hCq, hfr, tkp] at *; omega))) | (first | omega | (simp only [HS, FRS, CCS, am_R, TKS, TKU, hC, hCq, hfr, tkp] at *; omega)) | (simp only [HS, FRS, CCS, TKS, TKU, hC, hCq, hfr, tkp])) (fun c2 => hy (by omega)) (fun c2 => ?_)
  refine am_W.br rfl rfl (by and_intros <;> first | trivial | exact okI rfl rfl rfl | (refine okrI rfl rfl rfl rfl ?_ ?_ <;> (first | omega | (simp only [HS, FRS, CCS, am_R, TKS, TKU, hC, hCq, hfr, tkp] at *; omega))) | (refine okaI rfl rfl rfl rfl ?_ ?_ <;> (first | omega | (simp only [HS, FRS, CCS, am_R, TKS, TKU, hC, hCq, hfr, tkp] at *; omega))) | (first | omega | (simp only [HS, FRS, CCS, am_R, TKS, TKU, hC, hCq, hfr, tkp] at *; omega)) | (simp only [HS, FRS, CCS, TKS, TKU, hC, hCq, hfr, tkp])) (fun c3 => hy (by omega)) (fun c3 => ?_)
  refine am_W.br rfl rfl (by and_intros <;> first | trivial | exact okI rfl rfl rfl | (refine okrI rfl rfl rfl rfl ?_ ?_ <;> (first | omega | (simp only [HS, FRS, CCS, am_R, TKS, TKU, hC, hCq, hfr, tkp] at *; omega))) | (refine okaI rfl rfl rfl rfl ?_ ?_ <;> (first | omega | (simp only [HS, FRS, CCS, am_R, TKS, TKU, hC, hCq, hfr, tkp] at *; omega))) | (first | omega | (simp only [HS, FRS, CCS, am_R, TKS, TKU, hC, hCq, hfr, tkp] at *; omega)) | (simp only [HS, FRS, CCS, TKS, TKU, hC, hCq, hfr, tkp])) (fun c4 => ?_) (fun c4 => hy (by omega))
  rw [if_neg (by omega)]
  exact am_W.rt rfl rfl (by and_intros <;> first | trivial | exact okI rfl rfl rfl | (refine okrI rfl rfl rfl rfl ?_ ?_ <;> (first | omega | (simp only [HS, FRS, CCS, am_R, TKS, TKU, hC, hCq, hfr, tkp] at *; omega))) | (refine okaI rfl rfl rfl rfl ?_ ?_ <;> (first | omega | (simp only [HS, FRS, CCS, am_R, TKS, TKU, hC, hCq, hfr, tkp] at *; omega))) | (first | omega | (simp only [HS, FRS, CCS, am_R, TKS, TKU, hC, hCq, hfr, tkp] at *; omega)) | (simp only [HS, FRS, CCS, TKS, TKU, hC, hCq, hfr, tkp])) ⟨rfl, rfl⟩
theorem u2a {β γ : Type} [DecidableEq β] {f : Nat → β → γ} {i j : Nat} {a b : β} {v : γ} (h : b ≠ a) : am_u2 f i a v j b = f j b := by
  rw [am_u2_e, if_neg h]
  split <;> rfl
theorem tk_L {fi : Nat → Nat → Int} {ai : Nat → Int → Int} {s q v b : Int} (hI : txI (fi 14 23) (ai 24)) (hb : 0 ≤ b ∧ b ≤ fi 14 23) (hv : 0 ≤ v ∧ v ≤ 9999) (hq : am_R q) (hs : 0 ≤ s ∧ s ≤ 500) : LI (tk fi (s, q, v, b)) ai := ⟨hI, hb, hv, hq, hs⟩
theorem tk_F2 {lo hi : Nat} (fi : Nat → Nat → Int) (ai : Nat → Int → Int) (τ σ : Tk) : Fr lo hi (tk fi τ) (tk fi σ) ai ai := by
  have := tk_Fr (tk fi τ) ai σ
  rw [tk_tk] at this
  exact this.mo (Or.inl rfl)
set_option maxHeartbeats 400000 in
set_option maxRecDepth 100000 in
theorem c_takePiece (d L B1 B2 : Nat) (fi : Nat → Nat → Int) (ai aj : Nat → Int → Int) (p : Nat) (m s q v b : Int) (hp : PartAt L B1 B2 p) (hI : txI (fi 14 23) (ai 24)) (hb : 0 ≤ b ∧ b < fi 14 23) (hv : 0 ≤ v ∧ v ≤ 9999) (hm : am_R m) (hc : 0 ≤ fi 53 p ∧ fi 53 p < 30) (hq : am_R q) (hs : 0 ≤ s ∧ s ≤ 500) : am_M am_prog (d + 2) m_Re_takePiece [.inr (.inr 22), .inr (.inr p), .inl m] (HH L B1 B2 (tk fi (s, q, v, b)) ai aj) (RQ L B1 B2 aj p (p + 2) (tk fi (s, q, v, b)) ai (pPc (tx (fi 14 23) (ai 24)) m b) (fun fi' ai' x => fi' 53 p = fi 53 p + 1 ∧ ai' (p + 1) = up (ai (p + 1)) (fi 53 p) x.1 ∧ fi' 50 p = fi 50 p ∧ fi' 51 p = fi 51 p ∧ fi' 15 23 = x.2)) := by
  obtain ⟨p0, p1, hC, hCq, hfr⟩ := id hp
  have tkp : ∀ τ j, tk fi τ j p = fi j p := fun τ j => tk_n fi τ (by omega)
  have n1 := hI.2.1
  have hRQ : ∀ (v' b' e : Int) (hb' : 0 ≤ b' ∧ b' ≤ fi 14 23) (hv' : 0 ≤ v' ∧ v' ≤ 9999), pPc (tx (fi 14 23) (ai 24)) m b = .inl e → RQ L B1 B2 aj p (p + 2) (tk fi (s, q, v, b)) ai (pPc (tx (fi 14 23) (ai 24)) m b) (fun fi' ai' x => fi' 53 p = fi 53 p + 1 ∧ ai' (p + 1) = up (ai (p + 1)) (fi 53 p) x.1 ∧ fi' 50 p = fi 50 p ∧ fi' 51 p = fi 51 p ∧ fi' 15 23 = x.2) (some (.inl 0)) (HH L B1 B2 (am_u2 (tk fi (s, q, v', b')) 12 22 e) ai aj) := fun v' b' e hb' hv' he => RQ_f he (tk_F2 fi ai _ _) (tk_L hI hb' hv' hq hs)
  have hfin : ∀ (x v' b' : Int) (l4 : Option am_V), 0 ≤ b' ∧ b' ≤ fi 14 23 → 0 ≤ v' ∧ v' ≤ 9999 → pPc (tx (fi 14 23) (ai 24)) m b = .inr (x, b') → am_W (am_ev am_prog (d + 1)) T_Re_takePiece (RQ L B1 B2 aj p (p + 2) (tk fi (s, q, v, b)) ai (pPc (tx (fi 14 23) (ai 24)) m b) (fun fi' ai' x => fi' 53 p = fi 53 p + 1 ∧ ai' (p + 1) = up (ai (p + 1)) (fi 53 p) x.1 ∧ fi' 50 p = fi 50 p ∧ fi' 51 p = fi 51 p ∧ fi' 15 23 = x.2)) (165, [some (.inr (.inr 22)), some (.inr (.inr p)), some (.inl m), some (.inl x), l4], [], HH L B1 B2 (tk fi (s, q, v', b')) ai aj) := by
    intro x v' b' l4 hb' hv' hx
    refine am_W.cv 9 m_Pa_addPiece rfl rfl rfl rfl (by and_intros <;> first | trivial | exact okI rfl rfl rfl | (refine okrI rfl rfl rfl rfl ?_ ?_ <;> (first | omega | (simp only [HS, FRS, CCS, am_R, TKS, TKU, hC, hCq, hfr, tkp] at *; omega))) | (refine okaI rfl rfl rfl rfl ?_ ?_ <;> (first | omega | (simp only [HS, FRS, CCS, am_R, TKS, TKU, hC, hCq, hfr, tkp] at *; omega))) | (first | omega | (simp only [HS, FRS, CCS, am_R, TKS, TKU, hC, hCq, hfr, tkp] at *; omega)) | (simp only [HS, FRS, CCS, TKS, TKU, hC, hCq, hfr, tkp])) (c_Pa_addPiece d L B1 B2 (tk fi (s, q, v', b')) ai aj p x hp (by rw [tkp]; exact hc)) ?_
    rintro r1 h1 ⟨rfl, rfl⟩
    refine am_W.rt rfl rfl (by and_intros <;> first | trivial | exact okI rfl rfl rfl | (refine okrI rfl rfl rfl rfl ?_ ?_ <;> (first | omega | (simp only [HS, FRS, CCS, am_R, TKS, TKU, hC, hCq, hfr, tkp] at *; omega))) | (refine okaI rfl rfl rfl rfl ?_ ?_ <;> (first | omega | (simp only [HS, FRS, CCS, am_R, TKS, TKU, hC, hCq, hfr, tkp] at *; omega))) | (first | omega | (simp only [HS, FRS, CCS, am_R, TKS, TKU, hC, hCq, hfr, tkp] at *; omega)) | (simp only [HS, FRS, CCS, TKS, TKU, hC, hCq, hfr, tkp])) (RQ_y hx ?_ ?_ ?_)
    · refine (tk_F2 fi ai _ (s, q, v', b')).tr ⟨?_, ?_, ?_⟩
      · intro j c c1 c2 c3
        exact u2a (by omega)
      · intro c c3
        exact san _ _ (by omega)
      · rw [am_u2_e, if_neg (by decide)]
    · refine ⟨?_, ?_, ?_, hq, hs⟩
      · rw [am_u2_e, if_neg (by decide), san _ _ (by omega)]
        exact hI
      · rw [am_u2_e, if_neg (by decide), am_u2_e, if_neg (by decide)]
        exact hb'
      · rw [am_u2_e, if_neg (by decide)]
        exact hv'
    · refine ⟨?_, by rw [sas, tkp], ?_, ?_, ?_⟩
      · rw [u2s, tkp]
      · rw [am_u2_e, if_neg (by decide), tkp]
      · rw [am_u2_e, if_neg (by decide), tkp]
      · rw [am_u2_e, if_neg (by decide)]
        rfl
  refine am_W.of rfl rfl ?_
  refine am_W.cv 3 m_To_byteHere rfl rfl rfl rfl (by and_intros <;> first | trivial | exact okI rfl rfl rfl | (refine okrI rfl rfl rfl rfl ?_ ?_ <;> (first | omega | (simp only [HS, FRS, CCS, am_R, TKS, TKU, hC, hCq, hfr, tkp] at *; omega))) | (refine okaI rfl rfl rfl rfl ?_ ?_ <;> (first | omega | (simp only [HS, FRS, CCS, am_R, TKS, TKU, hC, hCq, hfr, tkp] at *; omega))) | (first | omega | (simp only [HS, FRS, CCS, am_R, TKS, TKU, hC, hCq, hfr, tkp] at *; omega)) | (simp only [HS, FRS, CCS, TKS, TKU, hC, hCq, hfr, tkp])) (c_To_byteHere d L B1 B2 fi ai aj (s, q, v, b) hI ⟨by dsimp only; omega, by dsimp only; omega⟩) ?_
  rintro r1 h1 ⟨rfl, rfl⟩
  dsimp only
  have ht := tx_R hI b
  have eh : am_ufi (HH L B1 B2 (tk fi (s, q, v, b)) ai aj) 15 23 (am_fi (HH L B1 B2 (tk fi (s, q, v, b)) ai aj) 15 23 + 1) = HH L B1 B2 (tk fi (s, q, v, b + 1)) ai aj := by simp only [HS, TKS, TKU]
  have hb1 : 0 ≤ b + 1 ∧ b + 1 ≤ fi 14 23 := by omega
  have hd := dge_in (n := fi 14 23) (T := ai 24) 4 (b + 1) 0 hb1.1 hb1.2 (Int.le_refl 0)
  have hd9 := dge_lt (tx (fi 14 23) (ai 24)) (b + 1)
  have ht1 := tx_R hI (b + 1)
  have htg := tx_R hI (dge (tx (fi 14 23) (ai 24)) 4 (b + 1) 0).1
  refine am_W.br rfl rfl (by and_intros <;> first | trivial | exact okI rfl rfl rfl | (refine okrI rfl rfl rfl rfl ?_ ?_ <;> (first | omega | (simp only [HS, FRS, CCS, am_R, TKS, TKU, hC, hCq, hfr, tkp] at *; omega))) | (refine okaI rfl rfl rfl rfl ?_ ?_ <;> (first | omega | (simp only [HS, FRS, CCS, am_R, TKS, TKU, hC, hCq, hfr, tkp] at *; omega))) | (first | omega | (simp only [HS, FRS, CCS, am_R, TKS, TKU, hC, hCq, hfr, tkp] at *; omega)) | (simp only [HS, FRS, CCS, TKS, TKU, hC, hCq, hfr, tkp])) (fun c1 => ?_) (fun c1 => ?_)
  · refine am_W.br rfl rfl (by and_intros <;> first | trivial | exact okI rfl rfl rfl | (refine okrI rfl rfl rfl rfl ?_ ?_ <;> (first | omega | (simp only [HS, FRS, CCS, am_R, TKS, TKU, hC, hCq, hfr, tkp] at *; omega))) | (refine okaI rfl rfl rfl rfl ?_ ?_ <;> (first | omega | (simp only [HS, FRS, CCS, am_R, TKS, TKU, hC, hCq, hfr, tkp] at *; omega))) | (first | omega | (simp only [HS, FRS, CCS, am_R, TKS, TKU, hC, hCq, hfr, tkp] at *; omega)) | (simp only [HS, FRS, CCS, TKS, TKU, hC, hCq, hfr, tkp])) (fun c2 => ?_) (fun c2 => ?_)
    · refine am_W.gp 165 rfl (by and_intros <;> first | trivial | exact okI rfl rfl rfl | (refine okrI rfl rfl rfl rfl ?_ ?_ <;> (first | omega | (simp only [HS, FRS, CCS, am_R, TKS, TKU, hC, hCq, hfr, tkp] at *; omega))) | (refine okaI rfl rfl rfl rfl ?_ ?_ <;> (first | omega | (simp only [HS, FRS, CCS, am_R, TKS, TKU, hC, hCq, hfr, tkp] at *; omega))) | (first | omega | (simp only [HS, FRS, CCS, am_R, TKS, TKU, hC, hCq, hfr, tkp] at *; omega)) | (simp only [HS, FRS, CCS, TKS, TKU, hC, hCq, hfr, tkp])) ?_
      simp only [HS, FRS, TKS, TKU, hC, hCq, hfr, tkp]
      exact hfin _ v (b + 1) none hb1 hv (by rw [pPc, if_neg c1, if_neg c2])
    · have c2' : tx (fi 14 23) (ai 24) b = 92 := by omega
      refine am_W.cv 3 m_To_byteHere rfl rfl rfl rfl (by and_intros <;> first | trivial | exact okI rfl rfl rfl | (refine okrI rfl rfl rfl rfl ?_ ?_ <;> (first | omega | (simp only [HS, FRS, CCS, am_R, TKS, TKU, hC, hCq, hfr, tkp] at *; omega))) | (refine okaI rfl rfl rfl rfl ?_ ?_ <;> (first | omega | (simp only [HS, FRS, CCS, am_R, TKS, TKU, hC, hCq, hfr, tkp] at *; omega))) | (first | omega | (simp only [HS, FRS, CCS, am_R, TKS, TKU, hC, hCq, hfr, tkp] at *; omega)) | (simp only [HS, FRS, CCS, TKS, TKU, hC, hCq, hfr, tkp])) (by simp only [HS, FRS, TKS, TKU, hC, hCq, hfr, tkp]; exact c_To_byteHere d L B1 B2 fi ai aj (s, q, v, b + 1) hI ⟨by dsimp only; omega, by dsimp only; omega⟩) ?_
      rintro r1 h1 ⟨rfl, rfl⟩
      dsimp only
      refine am_W.cs rfl rfl rfl (by and_intros <;> first | trivial | exact okI rfl rfl rfl | (refine okrI rfl rfl rfl rfl ?_ ?_ <;> (first | omega | (simp only [HS, FRS, CCS, am_R, TKS, TKU, hC, hCq, hfr, tkp] at *; omega))) | (refine okaI rfl rfl rfl rfl ?_ ?_ <;> (first | omega | (simp only [HS, FRS, CCS, am_R, TKS, TKU, hC, hCq, hfr, tkp] at *; omega))) | (first | omega | (simp only [HS, FRS, CCS, am_R, TKS, TKU, hC, hCq, hfr, tkp] at *; omega)) | (simp only [HS, FRS, CCS, TKS, TKU, hC, hCq, hfr, tkp])) (c_needsEscape d _ _ ⟨by omega, by omega⟩) ?_
      rintro r1 h1 ⟨rfl, rfl⟩
      by_cases hqe : esc (tx (fi 14 23) (ai 24) (b + 1))
      · rw [if_pos hqe]
        have hlt := (tx_lt (n := fi 14 23) (T := ai 24) (p := b + 1) (by omega)).2
        refine am_W.br rfl rfl (by and_intros <;> first | trivial | exact okI rfl rfl rfl | (refine okrI rfl rfl rfl rfl ?_ ?_ <;> (first | omega | (simp only [HS, FRS, CCS, am_R, TKS, TKU, hC, hCq, hfr, tkp] at *; omega))) | (refine okaI rfl rfl rfl rfl ?_ ?_ <;> (first | omega | (simp only [HS, FRS, CCS, am_R, TKS, TKU, hC, hCq, hfr, tkp] at *; omega))) | (first | omega | (simp only [HS, FRS, CCS, am_R, TKS, TKU, hC, hCq, hfr, tkp] at *; omega)) | (simp only [HS, FRS, CCS, TKS, TKU, hC, hCq, hfr, tkp])) (fun c3 => ?_) (fun c3 => absurd c3 (by decide))
        refine am_W.gp 165 rfl (by and_intros <;> first | trivial | exact okI rfl rfl rfl | (refine okrI rfl rfl rfl rfl ?_ ?_ <;> (first | omega | (simp only [HS, FRS, CCS, am_R, TKS, TKU, hC, hCq, hfr, tkp] at *; omega))) | (refine okaI rfl rfl rfl rfl ?_ ?_ <;> (first | omega | (simp only [HS, FRS, CCS, am_R, TKS, TKU, hC, hCq, hfr, tkp] at *; omega))) | (first | omega | (simp only [HS, FRS, CCS, am_R, TKS, TKU, hC, hCq, hfr, tkp] at *; omega)) | (simp only [HS, FRS, CCS, TKS, TKU, hC, hCq, hfr, tkp])) ?_
        simp only [HS, FRS, TKS, TKU, hC, hCq, hfr, tkp]
        refine hfin _ v (b + 1 + 1) none ⟨by omega, by omega⟩ hv ?_
        rw [pPc, if_neg c1, if_pos c2', if_pos hqe, show b + 1 + 1 = b + 2 by omega]
      · rw [if_neg hqe]
        refine am_W.br rfl rfl (by and_intros <;> first | trivial | exact okI rfl rfl rfl | (refine okrI rfl rfl rfl rfl ?_ ?_ <;> (first | omega | (simp only [HS, FRS, CCS, am_R, TKS, TKU, hC, hCq, hfr, tkp] at *; omega))) | (refine okaI rfl rfl rfl rfl ?_ ?_ <;> (first | omega | (simp only [HS, FRS, CCS, am_R, TKS, TKU, hC, hCq, hfr, tkp] at *; omega))) | (first | omega | (simp only [HS, FRS, CCS, am_R, TKS, TKU, hC, hCq, hfr, tkp] at *; omega)) | (simp only [HS, FRS, CCS, TKS, TKU, hC, hCq, hfr, tkp])) (fun c3 => absurd rfl c3) (fun c3 => ?_)
        refine am_W.cv 2 m_Re_wrong rfl rfl rfl rfl (by and_intros <;> first | trivial | exact okI rfl rfl rfl | (refine okrI rfl rfl rfl rfl ?_ ?_ <;> (first | omega | (simp only [HS, FRS, CCS, am_R, TKS, TKU, hC, hCq, hfr, tkp] at *; omega))) | (refine okaI rfl rfl rfl rfl ?_ ?_ <;> (first | omega | (simp only [HS, FRS, CCS, am_R, TKS, TKU, hC, hCq, hfr, tkp] at *; omega))) | (first | omega | (simp only [HS, FRS, CCS, am_R, TKS, TKU, hC, hCq, hfr, tkp] at *; omega)) | (simp only [HS, FRS, CCS, TKS, TKU, hC, hCq, hfr, tkp])) (c_wrong d L B1 B2 (tk fi (s, q, v, b + 1)) ai aj (b + 1)) ?_
        rintro r1 h1 ⟨rfl, rfl⟩
        refine am_W.rt rfl rfl (by and_intros <;> first | trivial | exact okI rfl rfl rfl | (refine okrI rfl rfl rfl rfl ?_ ?_ <;> (first | omega | (simp only [HS, FRS, CCS, am_R, TKS, TKU, hC, hCq, hfr, tkp] at *; omega))) | (refine okaI rfl rfl rfl rfl ?_ ?_ <;> (first | omega | (simp only [HS, FRS, CCS, am_R, TKS, TKU, hC, hCq, hfr, tkp] at *; omega))) | (first | omega | (simp only [HS, FRS, CCS, am_R, TKS, TKU, hC, hCq, hfr, tkp] at *; omega)) | (simp only [HS, FRS, CCS, TKS, TKU, hC, hCq, hfr, tkp])) (hRQ v (b + 1) _ hb1 hv ?_)
        rw [pPc, if_neg c1, if_pos c2', if_neg hqe]
  · have c1' : tx (fi 14 23) (ai 24) b = 123 := by omega
    refine am_W.cv 3 m_To_takeDigits rfl rfl rfl rfl (by and_intros <;> first | trivial | exact okI rfl rfl rfl | (refine okrI rfl rfl rfl rfl ?_ ?_ <;> (first | omega | (simp only [HS, FRS, CCS, am_R, TKS, TKU, hC, hCq, hfr, tkp] at *; omega))) | (refine okaI rfl rfl rfl rfl ?_ ?_ <;> (first | omega | (simp only [HS, FRS, CCS, am_R, TKS, TKU, hC, hCq, hfr, tkp] at *; omega))) | (first | omega | (simp only [HS, FRS, CCS, am_R, TKS, TKU, hC, hCq, hfr, tkp] at *; omega)) | (simp only [HS, FRS, CCS, TKS, TKU, hC, hCq, hfr, tkp])) (by simp only [HS, FRS, TKS, TKU, hC, hCq, hfr, tkp]; exact c_To_takeDigits d L B1 B2 fi ai aj s q v (b + 1) hI hb1.1 hb1.2) ?_
    rintro r1 h1 ⟨rfl, rfl⟩
    simp only [HS, FRS, TKS, TKU, hC, hCq, hfr, tkp]
    refine am_W.br rfl rfl (by and_intros <;> first | trivial | exact okI rfl rfl rfl | (refine okrI rfl rfl rfl rfl ?_ ?_ <;> (first | omega | (simp only [HS, FRS, CCS, am_R, TKS, TKU, hC, hCq, hfr, tkp] at *; omega))) | (refine okaI rfl rfl rfl rfl ?_ ?_ <;> (first | omega | (simp only [HS, FRS, CCS, am_R, TKS, TKU, hC, hCq, hfr, tkp] at *; omega))) | (first | omega | (simp only [HS, FRS, CCS, am_R, TKS, TKU, hC, hCq, hfr, tkp] at *; omega)) | (simp only [HS, FRS, CCS, TKS, TKU, hC, hCq, hfr, tkp])) (fun c2 => ?_) (fun c2 => ?_)
    · have c2' : ¬ (dge (tx (fi 14 23) (ai 24)) 4 (b + 1) 0).1 = b + 1 := by omega
      refine am_W.br rfl rfl (by and_intros <;> first | trivial | exact okI rfl rfl rfl | (refine okrI rfl rfl rfl rfl ?_ ?_ <;> (first | omega | (simp only [HS, FRS, CCS, am_R, TKS, TKU, hC, hCq, hfr, tkp] at *; omega))) | (refine okaI rfl rfl rfl rfl ?_ ?_ <;> (first | omega | (simp only [HS, FRS, CCS, am_R, TKS, TKU, hC, hCq, hfr, tkp] at *; omega))) | (first | omega | (simp only [HS, FRS, CCS, am_R, TKS, TKU, hC, hCq, hfr, tkp] at *; omega)) | (simp only [HS, FRS, CCS, TKS, TKU, hC, hCq, hfr, tkp])) (fun c3 => ?_) (fun c3 => ?_)
      · simp only [HS, FRS, TKS, TKU, hC, hCq, hfr, tkp] at c3
        refine am_W.cv 3 m_To_byteHere rfl rfl rfl rfl (by and_intros <;> first | trivial | exact okI rfl rfl rfl | (refine okrI rfl rfl rfl rfl ?_ ?_ <;> (first | omega | (simp only [HS, FRS, CCS, am_R, TKS, TKU, hC, hCq, hfr, tkp] at *; omega))) | (refine okaI rfl rfl rfl rfl ?_ ?_ <;> (first | omega | (simp only [HS, FRS, CCS, am_R, TKS, TKU, hC, hCq, hfr, tkp] at *; omega))) | (first | omega | (simp only [HS, FRS, CCS, am_R, TKS, TKU, hC, hCq, hfr, tkp] at *; omega)) | (simp only [HS, FRS, CCS, TKS, TKU, hC, hCq, hfr, tkp])) (c_To_byteHere d L B1 B2 fi ai aj (s, q, _, _) hI ⟨by dsimp only; omega, by dsimp only; omega⟩) ?_
        rintro r1 h1 ⟨rfl, rfl⟩
        dsimp only
        refine am_W.br rfl rfl (by and_intros <;> first | trivial | exact okI rfl rfl rfl | (refine okrI rfl rfl rfl rfl ?_ ?_ <;> (first | omega | (simp only [HS, FRS, CCS, am_R, TKS, TKU, hC, hCq, hfr, tkp] at *; omega))) | (refine okaI rfl rfl rfl rfl ?_ ?_ <;> (first | omega | (simp only [HS, FRS, CCS, am_R, TKS, TKU, hC, hCq, hfr, tkp] at *; omega))) | (first | omega | (simp only [HS, FRS, CCS, am_R, TKS, TKU, hC, hCq, hfr, tkp] at *; omega)) | (simp only [HS, FRS, CCS, TKS, TKU, hC, hCq, hfr, tkp])) (fun c4 => ?_) (fun c4 => ?_)
        · have hlt := (tx_lt (n := fi 14 23) (T := ai 24) (p := (dge (tx (fi 14 23) (ai 24)) 4 (b + 1) 0).1) (by omega)).2
          refine am_W.gp 165 rfl (by and_intros <;> first | trivial | exact okI rfl rfl rfl | (refine okrI rfl rfl rfl rfl ?_ ?_ <;> (first | omega | (simp only [HS, FRS, CCS, am_R, TKS, TKU, hC, hCq, hfr, tkp] at *; omega))) | (refine okaI rfl rfl rfl rfl ?_ ?_ <;> (first | omega | (simp only [HS, FRS, CCS, am_R, TKS, TKU, hC, hCq, hfr, tkp] at *; omega))) | (first | omega | (simp only [HS, FRS, CCS, am_R, TKS, TKU, hC, hCq, hfr, tkp] at *; omega)) | (simp only [HS, FRS, CCS, TKS, TKU, hC, hCq, hfr, tkp])) ?_
          simp only [HS, FRS, TKS, TKU, hC, hCq, hfr, tkp]
          refine hfin _ _ _ _ ⟨by omega, by omega⟩ ⟨hd.2.2.2, hd9⟩ ?_
          rw [pPc, if_pos c1', if_neg c2', if_neg (by omega), if_pos c4]
        · refine am_W.cv 2 m_Re_wrong rfl rfl rfl rfl (by and_intros <;> first | trivial | exact okI rfl rfl rfl | (refine okrI rfl rfl rfl rfl ?_ ?_ <;> (first | omega | (simp only [HS, FRS, CCS, am_R, TKS, TKU, hC, hCq, hfr, tkp] at *; omega))) | (refine okaI rfl rfl rfl rfl ?_ ?_ <;> (first | omega | (simp only [HS, FRS, CCS, am_R, TKS, TKU, hC, hCq, hfr, tkp] at *; omega))) | (first | omega | (simp only [HS, FRS, CCS, am_R, TKS, TKU, hC, hCq, hfr, tkp] at *; omega)) | (simp only [HS, FRS, CCS, TKS, TKU, hC, hCq, hfr, tkp])) (c_wrong d L B1 B2 (tk fi (s, q, _, _)) ai aj _) ?_
          rintro r1 h1 ⟨rfl, rfl⟩
          refine am_W.rt rfl rfl (by and_intros <;> first | trivial | exact okI rfl rfl rfl | (refine okrI rfl rfl rfl rfl ?_ ?_ <;> (first | omega | (simp only [HS, FRS, CCS, am_R, TKS, TKU, hC, hCq, hfr, tkp] at *; omega))) | (refine okaI rfl rfl rfl rfl ?_ ?_ <;> (first | omega | (simp only [HS, FRS, CCS, am_R, TKS, TKU, hC, hCq, hfr, tkp] at *; omega))) | (first | omega | (simp only [HS, FRS, CCS, am_R, TKS, TKU, hC, hCq, hfr, tkp] at *; omega)) | (simp only [HS, FRS, CCS, TKS, TKU, hC, hCq, hfr, tkp])) (hRQ _ _ _ ⟨by omega, by omega⟩ ⟨hd.2.2.2, hd9⟩ ?_)
          rw [pPc, if_pos c1', if_neg c2', if_neg (by omega), if_neg c4]
          simp only [HS, FRS, TKS, TKU, hC, hCq, hfr, tkp]
      · simp only [HS, FRS, TKS, TKU, hC, hCq, hfr, tkp] at c3
        refine am_W.cv 2 m_Re_mayNot rfl rfl rfl rfl (by and_intros <;> first | trivial | exact okI rfl rfl rfl | (refine okrI rfl rfl rfl rfl ?_ ?_ <;> (first | omega | (simp only [HS, FRS, CCS, am_R, TKS, TKU, hC, hCq, hfr, tkp] at *; omega))) | (refine okaI rfl rfl rfl rfl ?_ ?_ <;> (first | omega | (simp only [HS, FRS, CCS, am_R, TKS, TKU, hC, hCq, hfr, tkp] at *; omega))) | (first | omega | (simp only [HS, FRS, CCS, am_R, TKS, TKU, hC, hCq, hfr, tkp] at *; omega)) | (simp only [HS, FRS, CCS, TKS, TKU, hC, hCq, hfr, tkp])) (c_mayNot d L B1 B2 (tk fi (s, q, _, _)) ai aj _) ?_
        rintro r1 h1 ⟨rfl, rfl⟩
        refine am_W.rt rfl rfl (by and_intros <;> first | trivial | exact okI rfl rfl rfl | (refine okrI rfl rfl rfl rfl ?_ ?_ <;> (first | omega | (simp only [HS, FRS, CCS, am_R, TKS, TKU, hC, hCq, hfr, tkp] at *; omega))) | (refine okaI rfl rfl rfl rfl ?_ ?_ <;> (first | omega | (simp only [HS, FRS, CCS, am_R, TKS, TKU, hC, hCq, hfr, tkp] at *; omega))) | (first | omega | (simp only [HS, FRS, CCS, am_R, TKS, TKU, hC, hCq, hfr, tkp] at *; omega)) | (simp only [HS, FRS, CCS, TKS, TKU, hC, hCq, hfr, tkp])) (hRQ _ _ _ ⟨by omega, by omega⟩ ⟨hd.2.2.2, hd9⟩ ?_)
        rw [pPc, if_pos c1', if_neg c2', if_pos (by omega)]
    · refine am_W.cv 2 m_Re_wrong rfl rfl rfl rfl (by and_intros <;> first | trivial | exact okI rfl rfl rfl | (refine okrI rfl rfl rfl rfl ?_ ?_ <;> (first | omega | (simp only [HS, FRS, CCS, am_R, TKS, TKU, hC, hCq, hfr, tkp] at *; omega))) | (refine okaI rfl rfl rfl rfl ?_ ?_ <;> (first | omega | (simp only [HS, FRS, CCS, am_R, TKS, TKU, hC, hCq, hfr, tkp] at *; omega))) | (first | omega | (simp only [HS, FRS, CCS, am_R, TKS, TKU, hC, hCq, hfr, tkp] at *; omega)) | (simp only [HS, FRS, CCS, TKS, TKU, hC, hCq, hfr, tkp])) (c_wrong d L B1 B2 (tk fi (s, q, _, _)) ai aj _) ?_
      rintro r1 h1 ⟨rfl, rfl⟩
      refine am_W.rt rfl rfl (by and_intros <;> first | trivial | exact okI rfl rfl rfl | (refine okrI rfl rfl rfl rfl ?_ ?_ <;> (first | omega | (simp only [HS, FRS, CCS, am_R, TKS, TKU, hC, hCq, hfr, tkp] at *; omega))) | (refine okaI rfl rfl rfl rfl ?_ ?_ <;> (first | omega | (simp only [HS, FRS, CCS, am_R, TKS, TKU, hC, hCq, hfr, tkp] at *; omega))) | (first | omega | (simp only [HS, FRS, CCS, am_R, TKS, TKU, hC, hCq, hfr, tkp] at *; omega)) | (simp only [HS, FRS, CCS, TKS, TKU, hC, hCq, hfr, tkp])) (hRQ _ _ _ ⟨by omega, by omega⟩ ⟨hd.2.2.2, hd9⟩ ?_)
      rw [pPc, if_pos c1', if_pos (by omega)]
