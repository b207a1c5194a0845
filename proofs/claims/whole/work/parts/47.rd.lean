-- the class's reader
def LI (fi : Nat → Nat → Int) (ai : Nat → Int → Int) : Prop := txI (fi 14 23) (ai 24) ∧ (0 ≤ fi 15 23 ∧ fi 15 23 ≤ fi 14 23) ∧ (0 ≤ fi 18 23 ∧ fi 18 23 ≤ 9999) ∧ am_R (fi 17 23) ∧ (0 ≤ fi 16 23 ∧ fi 16 23 ≤ 500)
abbrev TT (fi : Nat → Nat → Int) (ai : Nat → Int → Int) : Int → Int := tx (fi 14 23) (ai 24)
def TC (fi : Nat → Nat → Int) (σ : Tk) : Prop := fi 16 23 = σ.1 ∧ fi 17 23 = σ.2.1 ∧ (σ.2.1 = 1 → fi 18 23 = σ.2.2.1) ∧ fi 15 23 = σ.2.2.2
def Fr (lo hi : Nat) (fi fi' : Nat → Nat → Int) (ai ai' : Nat → Int → Int) : Prop := (∀ j b, b ≠ 22 → b ≠ 23 → (b < lo ∨ hi ≤ b) → fi' j b = fi j b) ∧ (∀ b, (b < lo ∨ hi ≤ b) → ai' b = ai b) ∧ fi' 14 23 = fi 14 23
theorem Fr.rf {lo hi : Nat} {fi : Nat → Nat → Int} {ai : Nat → Int → Int} : Fr lo hi fi fi ai ai := ⟨fun _ _ _ _ _ => rfl, fun _ _ => rfl, rfl⟩
theorem Fr.tr {lo hi : Nat} {f1 f2 f3 : Nat → Nat → Int} {a1 a2 a3 : Nat → Int → Int} (h1 : Fr lo hi f1 f2 a1 a2) (h2 : Fr lo hi f2 f3 a2 a3) : Fr lo hi f1 f3 a1 a3 := ⟨fun j b p q r => (h2.1 j b p q r).trans (h1.1 j b p q r), fun b r => (h2.2.1 b r).trans (h1.2.1 b r), h2.2.2.trans h1.2.2⟩
theorem Fr.mo {lo hi l2 h2 : Nat} {fi fi' : Nat → Nat → Int} {ai ai' : Nat → Int → Int} (h : Fr lo hi fi fi' ai ai') (hs : lo = hi ∨ (l2 ≤ lo ∧ hi ≤ h2)) : Fr l2 h2 fi fi' ai ai' := ⟨fun j b p q r => h.1 j b p q (by omega), fun b r => h.2.1 b (by omega), h.2.2⟩
theorem Fr.D {lo hi : Nat} {fi fi' : Nat → Nat → Int} {ai ai' : Nat → Int → Int} (h : Fr lo hi fi fi' ai ai') (hl : lo = hi ∨ 40 ≤ lo) : DD fi' ai' = DD fi ai := by
  unfold DD
  rw [h.1 10 17 (by decide) (by decide) (by omega), h.2.1 18 (by omega), h.2.1 19 (by omega), h.2.1 20 (by omega), h.2.1 21 (by omega)]
theorem Fr.T {lo hi : Nat} {fi fi' : Nat → Nat → Int} {ai ai' : Nat → Int → Int} (h : Fr lo hi fi fi' ai ai') (hl : lo = hi ∨ 40 ≤ lo) : TT fi' ai' = TT fi ai := by
  unfold TT
  rw [h.2.2, h.2.1 24 (by omega)]
/-- a step that answers whether it could be taken -/
def RQ {α : Type} (L B1 B2 : Nat) (aj : Nat → Int → Int) (lo hi : Nat) (fi : Nat → Nat → Int) (ai : Nat → Int → Int) (res : Int ⊕ α) (K : (Nat → Nat → Int) → (Nat → Int → Int) → α → Prop) : Option am_V → am_H → Prop := fun w h' => ∃ fi' ai', h' = HH L B1 B2 fi' ai' aj ∧ Fr lo hi fi fi' ai ai' ∧ LI fi' ai' ∧ (match res with
  | .inl e => w = some (.inl 0) ∧ fi' 12 22 = e
  | .inr a => w = some (.inl 1) ∧ K fi' ai' a)
theorem tk_Fr (fi : Nat → Nat → Int) (ai : Nat → Int → Int) (τ : Tk) : Fr 0 0 fi (tk fi τ) ai ai := ⟨fun j b _ q _ => tk_n fi τ q, fun _ _ => rfl, rfl⟩
set_option maxHeartbeats 400000 in
set_option maxRecDepth 100000 in
theorem c_nx (d L B1 B2 : Nat) (fi : Nat → Nat → Int) (ai aj : Nat → Int → Int) (hL : LI fi ai) : am_M am_prog (d + 2) m_To_next [.inr (.inr 23)] (HH L B1 B2 fi ai aj) (fun w h' => w = none ∧ ∃ fi', h' = HH L B1 B2 fi' ai aj ∧ Fr 0 0 fi fi' ai ai ∧ LI fi' ai ∧ TC fi' (lx (TT fi ai) (fi 15 23) 0) ∧ fi' 12 22 = fi 12 22) := by
  obtain ⟨l1, l2, l3, l4, l5⟩ := hL
  have n1 := l1.2.1
  have hc := c_To_next d L B1 B2 fi ai aj (fi 16 23) (fi 17 23) (fi 18 23) (fi 15 23) l1 l2.1 l2.2
  rw [tk_id] at hc
  refine hc.mono ?_
  rintro w h' ⟨rfl, rfl⟩
  have hi := lx_in l1 (fi 15 23) (fi 18 23) l2.1 l2.2 l3
  have hv := lx_v (TT fi ai) (fi 15 23) (fi 18 23) 0
  exact ⟨rfl, _, rfl, tk_Fr _ _ _, ⟨l1, ⟨by show 0 ≤ (lx (tx (fi 14 23) (ai 24)) (fi 15 23) (fi 18 23)).2.2.2; omega, hi.2.2.2.2.2.2⟩, hi.2.2.2.1, hi.2.2.1, ⟨by show 0 ≤ (lx (tx (fi 14 23) (ai 24)) (fi 15 23) (fi 18 23)).1; omega, by show (lx (tx (fi 14 23) (ai 24)) (fi 15 23) (fi 18 23)).1 ≤ 500; omega⟩⟩, ⟨hv.1, hv.2.1, hv.2.2.1, hv.2.2.2⟩, rfl⟩
set_option maxHeartbeats 400000 in
set_option maxRecDepth 100000 in
theorem c_wrong (d L B1 B2 : Nat) (fi : Nat → Nat → Int) (ai aj : Nat → Int → Int) (p : Int) : am_M am_prog (d + 1) m_Re_wrong [.inr (.inr 22), .inl p] (HH L B1 B2 fi ai aj) (fun w h' => w = some (.inl 0) ∧ h' = HH L B1 B2 (am_u2 fi 12 22 (-10 - p)) ai aj) := by
  refine am_W.of rfl rfl ?_
  exact am_W.rt rfl rfl ⟨⟨trivial, okI rfl rfl rfl⟩, Or.inl rfl⟩ ⟨rfl, rfl⟩
set_option maxHeartbeats 400000 in
set_option maxRecDepth 100000 in
theorem c_mayNot (d L B1 B2 : Nat) (fi : Nat → Nat → Int) (ai aj : Nat → Int → Int) (p : Int) : am_M am_prog (d + 1) m_Re_mayNot [.inr (.inr 22), .inl p] (HH L B1 B2 fi ai aj) (fun w h' => w = some (.inl 0) ∧ h' = HH L B1 B2 (am_u2 fi 12 22 (-1000 - p)) ai aj) := by
  refine am_W.of rfl rfl ?_
  exact am_W.rt rfl rfl ⟨⟨trivial, okI rfl rfl rfl⟩, Or.inl rfl⟩ ⟨rfl, rfl⟩
theorem fa_Fr (fi : Nat → Nat → Int) (ai : Nat → Int → Int) (v : Int) : Fr 0 0 fi (am_u2 fi 12 22 v) ai ai := ⟨fun j b q _ _ => by
    rw [am_u2_e, if_neg q]
    split <;> rfl, fun _ _ => rfl, rfl⟩
theorem fa_L {fi : Nat → Nat → Int} {ai : Nat → Int → Int} (v : Int) (h : LI fi ai) : LI (am_u2 fi 12 22 v) ai := h
/-- the end by a fault -/
theorem RQ_f {α : Type} {L B1 B2 : Nat} {aj : Nat → Int → Int} {lo hi : Nat} {fi f1 : Nat → Nat → Int} {ai a1 : Nat → Int → Int} {e : Int} {K : (Nat → Nat → Int) → (Nat → Int → Int) → α → Prop} {res : Int ⊕ α} (hr : res = .inl e) (hF : Fr lo hi fi f1 ai a1) (hL : LI f1 a1) : RQ L B1 B2 aj lo hi fi ai res K (some (.inl 0)) (HH L B1 B2 (am_u2 f1 12 22 e) a1 aj) := ⟨_, _, rfl, hF.tr ((fa_Fr f1 a1 e).mo (Or.inl rfl)), fa_L e hL, by subst hr; exact ⟨rfl, rfl⟩⟩
theorem RQ_e {α : Type} {L B1 B2 : Nat} {aj : Nat → Int → Int} {lo hi : Nat} {fi f1 : Nat → Nat → Int} {ai a1 : Nat → Int → Int} {e : Int} {K : (Nat → Nat → Int) → (Nat → Int → Int) → α → Prop} {res : Int ⊕ α} (hr : res = .inl e) (hF : Fr lo hi fi f1 ai a1) (hL : LI f1 a1) (he : f1 12 22 = e) : RQ L B1 B2 aj lo hi fi ai res K (some (.inl 0)) (HH L B1 B2 f1 a1 aj) := ⟨_, _, rfl, hF, hL, by subst hr; exact ⟨rfl, he⟩⟩
theorem RQ_y {α : Type} {L B1 B2 : Nat} {aj : Nat → Int → Int} {lo hi : Nat} {fi f1 : Nat → Nat → Int} {ai a1 : Nat → Int → Int} {a : α} {K : (Nat → Nat → Int) → (Nat → Int → Int) → α → Prop} {res : Int ⊕ α} (hr : res = .inr a) (hF : Fr lo hi fi f1 ai a1) (hL : LI f1 a1) (hK : K f1 a1 a) : RQ L B1 B2 aj lo hi fi ai res K (some (.inl 1)) (HH L B1 B2 f1 a1 aj) := ⟨_, _, rfl, hF, hL, by subst hr; exact ⟨rfl, hK⟩⟩
theorem TC_R {fi : Nat → Nat → Int} {ai : Nat → Int → Int} {t : Int → Int} {b : Int} {f0 : Nat → Nat → Int} (hL : LI f0 ai) (ht : t = TT f0 ai) (hb : 0 ≤ b ∧ b ≤ f0 14 23) (hT : TC fi (lx t b 0)) : am_R (fi 17 23) ∧ (0 ≤ fi 16 23 ∧ fi 16 23 ≤ 500) ∧ 0 ≤ fi 15 23 := by
  have hi := lx_in hL.1 b 0 hb.1 hb.2 ⟨by omega, by omega⟩
  subst ht
  unfold TT at hT
  obtain ⟨a1, a2, a3, a4⟩ := hT
  have := hL.1.2.1
  rw [a1, a2, a4]
  exact ⟨hi.2.2.1, ⟨by omega, by omega⟩, by omega⟩
set_option maxHeartbeats 400000 in
set_option maxRecDepth 100000 in
theorem c_nextIs (d L B1 B2 : Nat) (fi : Nat → Nat → Int) (ai aj : Nat → Int → Int) (q : Int) (hq : am_R q) (hL : LI fi ai) : am_M am_prog (d + 3) m_Re_nextIs [.inr (.inr 22), .inl q] (HH L B1 B2 fi ai aj) (RQ L B1 B2 aj 0 0 fi ai (pIs (TT fi ai) q (fi 15 23)) (fun fi' _ σ => TC fi' σ)) := by
  refine am_W.of rfl rfl ?_
  refine am_W.cv 3 m_To_next rfl rfl rfl rfl (by and_intros <;> first | trivial | exact okI rfl rfl rfl | (refine okrI rfl rfl rfl rfl ?_ ?_ <;> (first | omega | (simp only [HS, FRS, CCS, am_R, TKS] at *; omega))) | (refine okaI rfl rfl rfl rfl ?_ ?_ <;> (first | omega | (simp only [HS, FRS, CCS, am_R, TKS] at *; omega))) | (first | omega | (simp only [HS, FRS, CCS, am_R, TKS] at *; omega)) | (simp only [HS, FRS, CCS, TKS])) (c_nx d L B1 B2 fi ai aj hL) ?_
  rintro r1 h1 ⟨rfl, f1, rfl, hF, hL1, hT, hf⟩
  have hR := TC_R hL rfl hL.2.1 hT
  have hT2 := hT
  obtain ⟨t1, t2, t3, t4⟩ := hT2
  refine am_W.br rfl rfl (by and_intros <;> first | trivial | exact okI rfl rfl rfl | (refine okrI rfl rfl rfl rfl ?_ ?_ <;> (first | omega | (simp only [HS, FRS, CCS, am_R, TKS] at *; omega))) | (refine okaI rfl rfl rfl rfl ?_ ?_ <;> (first | omega | (simp only [HS, FRS, CCS, am_R, TKS] at *; omega))) | (first | omega | (simp only [HS, FRS, CCS, am_R, TKS] at *; omega)) | (simp only [HS, FRS, CCS, TKS])) (fun c1 => ?_) (fun c1 => ?_)
  · simp only [HS, FRS, TKS] at c1
    refine am_W.rt rfl rfl (by and_intros <;> first | trivial | exact okI rfl rfl rfl | (refine okrI rfl rfl rfl rfl ?_ ?_ <;> (first | omega | (simp only [HS, FRS, CCS, am_R, TKS] at *; omega))) | (refine okaI rfl rfl rfl rfl ?_ ?_ <;> (first | omega | (simp only [HS, FRS, CCS, am_R, TKS] at *; omega))) | (first | omega | (simp only [HS, FRS, CCS, am_R, TKS] at *; omega)) | (simp only [HS, FRS, CCS, TKS])) (RQ_y (a := lx (TT fi ai) (fi 15 23) 0) ?_ hF hL1 hT)
    rw [pIs, if_pos (by omega)]
  · simp only [HS, FRS, TKS] at c1
    refine am_W.cv 2 m_Re_wrong rfl rfl rfl rfl (by and_intros <;> first | trivial | exact okI rfl rfl rfl | (refine okrI rfl rfl rfl rfl ?_ ?_ <;> (first | omega | (simp only [HS, FRS, CCS, am_R, TKS] at *; omega))) | (refine okaI rfl rfl rfl rfl ?_ ?_ <;> (first | omega | (simp only [HS, FRS, CCS, am_R, TKS] at *; omega))) | (first | omega | (simp only [HS, FRS, CCS, am_R, TKS] at *; omega)) | (simp only [HS, FRS, CCS, TKS])) (c_wrong (d + 1) L B1 B2 f1 ai aj (f1 16 23)) ?_
    rintro r1 h1 ⟨rfl, rfl⟩
    refine am_W.br rfl rfl (by and_intros <;> first | trivial | exact okI rfl rfl rfl | (refine okrI rfl rfl rfl rfl ?_ ?_ <;> (first | omega | (simp only [HS, FRS, CCS, am_R, TKS] at *; omega))) | (refine okaI rfl rfl rfl rfl ?_ ?_ <;> (first | omega | (simp only [HS, FRS, CCS, am_R, TKS] at *; omega))) | (first | omega | (simp only [HS, FRS, CCS, am_R, TKS] at *; omega)) | (simp only [HS, FRS, CCS, TKS])) (fun c2 => ?_) (fun c2 => absurd rfl c2)
    refine am_W.rt rfl rfl (by and_intros <;> first | trivial | exact okI rfl rfl rfl | (refine okrI rfl rfl rfl rfl ?_ ?_ <;> (first | omega | (simp only [HS, FRS, CCS, am_R, TKS] at *; omega))) | (refine okaI rfl rfl rfl rfl ?_ ?_ <;> (first | omega | (simp only [HS, FRS, CCS, am_R, TKS] at *; omega))) | (first | omega | (simp only [HS, FRS, CCS, am_R, TKS] at *; omega)) | (simp only [HS, FRS, CCS, TKS])) (RQ_f ?_ hF hL1)
    rw [pIs, if_neg (by omega), t1]
set_option maxHeartbeats 400000 in
set_option maxRecDepth 100000 in
theorem c_nextNum (d L B1 B2 : Nat) (fi : Nat → Nat → Int) (ai aj : Nat → Int → Int) (m : Int) (hm : am_R m) (hL : LI fi ai) : am_M am_prog (d + 3) m_Re_nextIsNumberBelow [.inr (.inr 22), .inl m] (HH L B1 B2 fi ai aj) (RQ L B1 B2 aj 0 0 fi ai (pNum (TT fi ai) m (fi 15 23)) (fun fi' _ σ => TC fi' σ ∧ fi' 18 23 = σ.2.2.1 ∧ σ.2.2.1 < m)) := by
  refine am_W.of rfl rfl ?_
  refine am_W.cv 3 m_To_next rfl rfl rfl rfl (by and_intros <;> first | trivial | exact okI rfl rfl rfl | (refine okrI rfl rfl rfl rfl ?_ ?_ <;> (first | omega | (simp only [HS, FRS, CCS, am_R, TKS] at *; omega))) | (refine okaI rfl rfl rfl rfl ?_ ?_ <;> (first | omega | (simp only [HS, FRS, CCS, am_R, TKS] at *; omega))) | (first | omega | (simp only [HS, FRS, CCS, am_R, TKS] at *; omega)) | (simp only [HS, FRS, CCS, TKS])) (c_nx d L B1 B2 fi ai aj hL) ?_
  rintro r1 h1 ⟨rfl, f1, rfl, hF, hL1, hT, hf⟩
  have hR := TC_R hL rfl hL.2.1 hT
  have hT2 := hT
  obtain ⟨t1, t2, t3, t4⟩ := hT2
  have l3 := hL1.2.2.1
  refine am_W.br rfl rfl (by and_intros <;> first | trivial | exact okI rfl rfl rfl | (refine okrI rfl rfl rfl rfl ?_ ?_ <;> (first | omega | (simp only [HS, FRS, CCS, am_R, TKS] at *; omega))) | (refine okaI rfl rfl rfl rfl ?_ ?_ <;> (first | omega | (simp only [HS, FRS, CCS, am_R, TKS] at *; omega))) | (first | omega | (simp only [HS, FRS, CCS, am_R, TKS] at *; omega)) | (simp only [HS, FRS, CCS, TKS])) (fun c1 => ?_) (fun c1 => ?_)
  · simp only [HS, FRS, TKS] at c1
    have h18 := t3 (by omega)
    refine am_W.br rfl rfl (by and_intros <;> first | trivial | exact okI rfl rfl rfl | (refine okrI rfl rfl rfl rfl ?_ ?_ <;> (first | omega | (simp only [HS, FRS, CCS, am_R, TKS] at *; omega))) | (refine okaI rfl rfl rfl rfl ?_ ?_ <;> (first | omega | (simp only [HS, FRS, CCS, am_R, TKS] at *; omega))) | (first | omega | (simp only [HS, FRS, CCS, am_R, TKS] at *; omega)) | (simp only [HS, FRS, CCS, TKS])) (fun c2 => ?_) (fun c2 => ?_)
    · simp only [HS, FRS, TKS] at c2
      refine am_W.rt rfl rfl (by and_intros <;> first | trivial | exact okI rfl rfl rfl | (refine okrI rfl rfl rfl rfl ?_ ?_ <;> (first | omega | (simp only [HS, FRS, CCS, am_R, TKS] at *; omega))) | (refine okaI rfl rfl rfl rfl ?_ ?_ <;> (first | omega | (simp only [HS, FRS, CCS, am_R, TKS] at *; omega))) | (first | omega | (simp only [HS, FRS, CCS, am_R, TKS] at *; omega)) | (simp only [HS, FRS, CCS, TKS])) (RQ_y (a := lx (TT fi ai) (fi 15 23) 0) ?_ hF hL1 ⟨hT, h18, by omega⟩)
      rw [pNum, if_pos (by omega), if_pos (by omega)]
    · simp only [HS, FRS, TKS] at c2
      refine am_W.cv 2 m_Re_mayNot rfl rfl rfl rfl (by and_intros <;> first | trivial | exact okI rfl rfl rfl | (refine okrI rfl rfl rfl rfl ?_ ?_ <;> (first | omega | (simp only [HS, FRS, CCS, am_R, TKS] at *; omega))) | (refine okaI rfl rfl rfl rfl ?_ ?_ <;> (first | omega | (simp only [HS, FRS, CCS, am_R, TKS] at *; omega))) | (first | omega | (simp only [HS, FRS, CCS, am_R, TKS] at *; omega)) | (simp only [HS, FRS, CCS, TKS])) (c_mayNot (d + 1) L B1 B2 f1 ai aj (f1 16 23)) ?_
      rintro r1 h1 ⟨rfl, rfl⟩
      refine am_W.br rfl rfl (by and_intros <;> first | trivial | exact okI rfl rfl rfl | (refine okrI rfl rfl rfl rfl ?_ ?_ <;> (first | omega | (simp only [HS, FRS, CCS, am_R, TKS] at *; omega))) | (refine okaI rfl rfl rfl rfl ?_ ?_ <;> (first | omega | (simp only [HS, FRS, CCS, am_R, TKS] at *; omega))) | (first | omega | (simp only [HS, FRS, CCS, am_R, TKS] at *; omega)) | (simp only [HS, FRS, CCS, TKS])) (fun c3 => ?_) (fun c3 => absurd rfl c3)
      refine am_W.rt rfl rfl (by and_intros <;> first | trivial | exact okI rfl rfl rfl | (refine okrI rfl rfl rfl rfl ?_ ?_ <;> (first | omega | (simp only [HS, FRS, CCS, am_R, TKS] at *; omega))) | (refine okaI rfl rfl rfl rfl ?_ ?_ <;> (first | omega | (simp only [HS, FRS, CCS, am_R, TKS] at *; omega))) | (first | omega | (simp only [HS, FRS, CCS, am_R, TKS] at *; omega)) | (simp only [HS, FRS, CCS, TKS])) (RQ_f ?_ hF hL1)
      rw [pNum, if_pos (by omega), if_neg (by omega), t1]
  · simp only [HS, FRS, TKS] at c1
    refine am_W.cv 2 m_Re_wrong rfl rfl rfl rfl (by and_intros <;> first | trivial | exact okI rfl rfl rfl | (refine okrI rfl rfl rfl rfl ?_ ?_ <;> (first | omega | (simp only [HS, FRS, CCS, am_R, TKS] at *; omega))) | (refine okaI rfl rfl rfl rfl ?_ ?_ <;> (first | omega | (simp only [HS, FRS, CCS, am_R, TKS] at *; omega))) | (first | omega | (simp only [HS, FRS, CCS, am_R, TKS] at *; omega)) | (simp only [HS, FRS, CCS, TKS])) (c_wrong (d + 1) L B1 B2 f1 ai aj (f1 16 23)) ?_
    rintro r1 h1 ⟨rfl, rfl⟩
    refine am_W.rt rfl rfl (by and_intros <;> first | trivial | exact okI rfl rfl rfl | (refine okrI rfl rfl rfl rfl ?_ ?_ <;> (first | omega | (simp only [HS, FRS, CCS, am_R, TKS] at *; omega))) | (refine okaI rfl rfl rfl rfl ?_ ?_ <;> (first | omega | (simp only [HS, FRS, CCS, am_R, TKS] at *; omega))) | (first | omega | (simp only [HS, FRS, CCS, am_R, TKS] at *; omega)) | (simp only [HS, FRS, CCS, TKS])) (RQ_f ?_ hF hL1)
    rw [pNum, if_neg (by omega), t1]
