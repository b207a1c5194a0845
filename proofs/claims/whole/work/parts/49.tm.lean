-- templates and names of the class's reader
theorem c_takePieceL (d L B1 B2 : Nat) (fi : Nat → Nat → Int) (ai aj : Nat → Int → Int) (p : Nat) (m : Int) (hp : PartAt L B1 B2 p) (hL : LI fi ai) (hb : fi 15 23 < fi 14 23) (hm : am_R m) (hc : 0 ≤ fi 53 p ∧ fi 53 p < 30) : am_M am_prog (d + 2) m_Re_takePiece [.inr (.inr 22), .inr (.inr p), .inl m] (HH L B1 B2 fi ai aj) (RQ L B1 B2 aj p (p + 2) fi ai (pPc (tx (fi 14 23) (ai 24)) m (fi 15 23)) (fun fi' ai' x => fi' 53 p = fi 53 p + 1 ∧ ai' (p + 1) = up (ai (p + 1)) (fi 53 p) x.1 ∧ fi' 50 p = fi 50 p ∧ fi' 51 p = fi 51 p ∧ fi' 15 23 = x.2)) := by
  have h := c_takePiece d L B1 B2 fi ai aj p m (fi 16 23) (fi 17 23) (fi 18 23) (fi 15 23) hp hL.1 ⟨hL.2.1.1, hb⟩ hL.2.2.1 hm hc hL.2.2.2.1 hL.2.2.2.2
  rw [tk_id] at h
  exact h
theorem c_byteL (d L B1 B2 : Nat) (fi : Nat → Nat → Int) (ai aj : Nat → Int → Int) (hL : LI fi ai) : am_M am_prog (d + 1) m_To_byteHere [.inr (.inr 23)] (HH L B1 B2 fi ai aj) (fun w h' => w = some (.inl (tx (fi 14 23) (ai 24) (fi 15 23))) ∧ h' = HH L B1 B2 fi ai aj) := by
  have h := c_To_byteHere d L B1 B2 fi ai aj (fi 16 23, fi 17 23, fi 18 23, fi 15 23) hL.1 ⟨by have := hL.2.1; dsimp only; omega, by have := hL.2.1; have := hL.1.2.1; dsimp only; omega⟩
  rw [tk_id] at h
  exact h
def RepP (fi : Nat → Nat → Int) (ai : Nat → Int → Int) (p : Nat) (x : PT) : Prop := fi 50 p = x.1 ∧ (x.1 ≠ 0 → fi 51 p = x.2.1) ∧ (x.1 = 0 → fi 53 p = (x.2.2.length : Int) ∧ ∀ i : Nat, i < x.2.2.length → ai (p + 1) (i : Int) = x.2.2.getD i 0)
theorem pcs_q {t : Int → Int} {m b : Int} {l : List Int} (k : Nat) (h : t b = 34) : pcs t m k b l = .inr (l, b + 1) := by
  cases k <;> exact if_pos h
theorem pcs_w {t : Int → Int} {m b : Int} {l : List Int} (k : Nat) (h : ¬ t b = 34) (h2 : t b < 32 ∨ 126 < t b ∨ t b = 125) : pcs t m k b l = .inl (-10 - b) := by
  cases k
  · unfold pcs
    rw [if_neg h, if_pos h2]
  · unfold pcs
    rw [if_neg h, if_pos h2]
theorem pcs_0 {t : Int → Int} {m b : Int} {l : List Int} (h : ¬ t b = 34) (h2 : ¬ (t b < 32 ∨ 126 < t b ∨ t b = 125)) : pcs t m 0 b l = .inl (-1000 - b) := by
  unfold pcs
  rw [if_neg h, if_neg h2]
theorem pcs_s {t : Int → Int} {m b : Int} {l : List Int} (k : Nat) (h : ¬ t b = 34) (h2 : ¬ (t b < 32 ∨ 126 < t b ∨ t b = 125)) : pcs t m (k + 1) b l = pb (pPc t m b) fun x => pcs t m k x.2 (l ++ [x.1]) := by
  rw [pcs, if_neg h, if_neg h2]
theorem LI_15 {fi : Nat → Nat → Int} {ai : Nat → Int → Int} {x : Int} (hL : LI fi ai) (hx : 0 ≤ x ∧ x ≤ fi 14 23) : LI (am_u2 fi 15 23 x) ai := ⟨hL.1, ⟨by rw [u2s]; exact hx.1, by rw [u2s]; exact hx.2⟩, hL.2.2⟩
theorem Fr_15 {lo hi : Nat} {fi : Nat → Nat → Int} {ai : Nat → Int → Int} (x : Int) : Fr lo hi fi (am_u2 fi 15 23 x) ai ai := ⟨fun _ _ _ q _ => u2a q, fun _ _ => rfl, rfl⟩
theorem Fr.LT {lo hi : Nat} {fi fi' : Nat → Nat → Int} {ai ai' : Nat → Int → Int} (h : Fr lo hi fi fi' ai ai') (hl : lo = hi ∨ 40 ≤ lo) : tx (fi' 14 23) (ai' 24) = tx (fi 14 23) (ai 24) := by
  rw [h.2.2, h.2.1 24 (by omega)]
theorem getD_app (l : List Int) (x : Int) (i : Nat) : (l ++ [x]).getD i 0 = if i < l.length then l.getD i 0 else if i = l.length then x else 0 := by
  rw [List.getD_eq_getElem?_getD, List.getD_eq_getElem?_getD]
  by_cases h : i < l.length
  · rw [if_pos h, List.getElem?_append_left h]
  · rw [if_neg h, List.getElem?_append_right (by omega)]
    by_cases h2 : i = l.length
    · rw [if_pos h2, h2, Nat.sub_self]
      rfl
    · rw [if_neg h2]
      have : (i - l.length) = (i - l.length - 1) + 1 := by omega
      rw [this]
      rfl
set_option maxHeartbeats 400000 in
set_option maxRecDepth 100000 in
theorem l_template (d L B1 B2 : Nat) (fi : Nat → Nat → Int) (ai aj : Nat → Int → Int) (p : Nat) (m : Int) (hp : PartAt L B1 B2 p) (hm : am_R m) (t : Int → Int) (ht : t = tx (fi 14 23) (ai 24)) (R : Int ⊕ (List Int × Int)) : ∀ (k : Nat) (l : List Int) (f1 : Nat → Nat → Int) (a1 : Nat → Int → Int) (i : Int) (l4 : Option am_V), l.length + k = 30 → i = (l.length : Int) → Fr p (p + 2) fi f1 ai a1 → LI f1 a1 → RepP f1 a1 p (0, 0, l) → R = pcs t m k (f1 15 23) l → am_W (am_ev am_prog (d + 2)) T_Re_takeTemplate (RQ L B1 B2 aj p (p + 2) fi ai R (fun fi' ai' x => RepP fi' ai' p (0, 0, x.1) ∧ fi' 15 23 = x.2)) (12, [some (.inr (.inr 22)), some (.inr (.inr p)), some (.inl m), some (.inl i), l4], [], HH L B1 B2 f1 a1 aj) := by
  obtain ⟨p0, p1, hC, hCq, hfr⟩ := id hp
  have hstep : ∀ (k : Nat) (l : List Int) (f1 : Nat → Nat → Int) (a1 : Nat → Int → Int) (i : Int) (l4 : Option am_V), l.length + k = 30 → i = (l.length : Int) → Fr p (p + 2) fi f1 ai a1 → LI f1 a1 → RepP f1 a1 p (0, 0, l) → R = pcs t m k (f1 15 23) l → (¬ t (f1 15 23) = 34 → ¬ (t (f1 15 23) < 32 ∨ 126 < t (f1 15 23) ∨ t (f1 15 23) = 125) → am_W (am_ev am_prog (d + 2)) T_Re_takeTemplate (RQ L B1 B2 aj p (p + 2) fi ai R (fun fi' ai' x => RepP fi' ai' p (0, 0, x.1) ∧ fi' 15 23 = x.2)) (82, [some (.inr (.inr 22)), some (.inr (.inr p)), some (.inl m), some (.inl i), some (.inl (t (f1 15 23)))], [], HH L B1 B2 f1 a1 aj)) → am_W (am_ev am_prog (d + 2)) T_Re_takeTemplate (RQ L B1 B2 aj p (p + 2) fi ai R (fun fi' ai' x => RepP fi' ai' p (0, 0, x.1) ∧ fi' 15 23 = x.2)) (12, [some (.inr (.inr 22)), some (.inr (.inr p)), some (.inl m), some (.inl i), l4], [], HH L B1 B2 f1 a1 aj) := by
    intro k l f1 a1 i l4 hk hi hF hL hr hR w
    have e1 : tx (f1 14 23) (a1 24) = t := by rw [ht, hF.LT (Or.inr p0)]
    have hx := tx_R hL.1 (f1 15 23)
    rw [e1] at hx
    have l2 := hL.2.1
    have n1 := hL.1.2.1
    refine am_W.br rfl rfl (by and_intros <;> first | trivial | exact okI rfl rfl rfl | (refine okrI rfl rfl rfl rfl ?_ ?_ <;> (first | omega | (simp only [HS, FRS, CCS, am_R, TKS, TKU, hC, hCq, hfr] at *; omega))) | (refine okaI rfl rfl rfl rfl ?_ ?_ <;> (first | omega | (simp only [HS, FRS, CCS, am_R, TKS, TKU, hC, hCq, hfr] at *; omega))) | (first | omega | (simp only [HS, FRS, CCS, am_R, TKS, TKU, hC, hCq, hfr] at *; omega)) | (simp only [HS, FRS, CCS, TKS, TKU, hC, hCq, hfr])) (fun c1 => absurd c1 (by omega)) (fun c1 => ?_)
    refine am_W.cv 3 m_To_byteHere rfl rfl rfl rfl (by and_intros <;> first | trivial | exact okI rfl rfl rfl | (refine okrI rfl rfl rfl rfl ?_ ?_ <;> (first | omega | (simp only [HS, FRS, CCS, am_R, TKS, TKU, hC, hCq, hfr] at *; omega))) | (refine okaI rfl rfl rfl rfl ?_ ?_ <;> (first | omega | (simp only [HS, FRS, CCS, am_R, TKS, TKU, hC, hCq, hfr] at *; omega))) | (first | omega | (simp only [HS, FRS, CCS, am_R, TKS, TKU, hC, hCq, hfr] at *; omega)) | (simp only [HS, FRS, CCS, TKS, TKU, hC, hCq, hfr])) (c_byteL (d + 1) L B1 B2 f1 a1 aj hL) ?_
    rintro r1 h1 ⟨rfl, rfl⟩
    rw [e1]
    have hw : (t (f1 15 23) < 32 ∨ 126 < t (f1 15 23) ∨ t (f1 15 23) = 125) → ¬ t (f1 15 23) = 34 → am_W (am_ev am_prog (d + 2)) T_Re_takeTemplate (RQ L B1 B2 aj p (p + 2) fi ai R (fun fi' ai' x => RepP fi' ai' p (0, 0, x.1) ∧ fi' 15 23 = x.2)) (70, [some (.inr (.inr 22)), some (.inr (.inr p)), some (.inl m), some (.inl i), some (.inl (t (f1 15 23)))], [], HH L B1 B2 f1 a1 aj) := by
      intro hq hn
      refine am_W.cv 2 m_Re_wrong rfl rfl rfl rfl (by and_intros <;> first | trivial | exact okI rfl rfl rfl | (refine okrI rfl rfl rfl rfl ?_ ?_ <;> (first | omega | (simp only [HS, FRS, CCS, am_R, TKS, TKU, hC, hCq, hfr] at *; omega))) | (refine okaI rfl rfl rfl rfl ?_ ?_ <;> (first | omega | (simp only [HS, FRS, CCS, am_R, TKS, TKU, hC, hCq, hfr] at *; omega))) | (first | omega | (simp only [HS, FRS, CCS, am_R, TKS, TKU, hC, hCq, hfr] at *; omega)) | (simp only [HS, FRS, CCS, TKS, TKU, hC, hCq, hfr])) (c_wrong (d + 1) L B1 B2 f1 a1 aj (f1 15 23)) ?_
      rintro r1 h1 ⟨rfl, rfl⟩
      refine am_W.rt rfl rfl (by and_intros <;> first | trivial | exact okI rfl rfl rfl | (refine okrI rfl rfl rfl rfl ?_ ?_ <;> (first | omega | (simp only [HS, FRS, CCS, am_R, TKS, TKU, hC, hCq, hfr] at *; omega))) | (refine okaI rfl rfl rfl rfl ?_ ?_ <;> (first | omega | (simp only [HS, FRS, CCS, am_R, TKS, TKU, hC, hCq, hfr] at *; omega))) | (first | omega | (simp only [HS, FRS, CCS, am_R, TKS, TKU, hC, hCq, hfr] at *; omega)) | (simp only [HS, FRS, CCS, TKS, TKU, hC, hCq, hfr])) (RQ_f ?_ hF hL)
      rw [hR, pcs_w k hn hq]
    refine am_W.br rfl rfl (by and_intros <;> first | trivial | exact okI rfl rfl rfl | (refine okrI rfl rfl rfl rfl ?_ ?_ <;> (first | omega | (simp only [HS, FRS, CCS, am_R, TKS, TKU, hC, hCq, hfr] at *; omega))) | (refine okaI rfl rfl rfl rfl ?_ ?_ <;> (first | omega | (simp only [HS, FRS, CCS, am_R, TKS, TKU, hC, hCq, hfr] at *; omega))) | (first | omega | (simp only [HS, FRS, CCS, am_R, TKS, TKU, hC, hCq, hfr] at *; omega)) | (simp only [HS, FRS, CCS, TKS, TKU, hC, hCq, hfr])) (fun c2 => ?_) (fun c2 => ?_)
    · refine am_W.br rfl rfl (by and_intros <;> first | trivial | exact okI rfl rfl rfl | (refine okrI rfl rfl rfl rfl ?_ ?_ <;> (first | omega | (simp only [HS, FRS, CCS, am_R, TKS, TKU, hC, hCq, hfr] at *; omega))) | (refine okaI rfl rfl rfl rfl ?_ ?_ <;> (first | omega | (simp only [HS, FRS, CCS, am_R, TKS, TKU, hC, hCq, hfr] at *; omega))) | (first | omega | (simp only [HS, FRS, CCS, am_R, TKS, TKU, hC, hCq, hfr] at *; omega)) | (simp only [HS, FRS, CCS, TKS, TKU, hC, hCq, hfr])) (fun c3 => hw (by omega) c2) (fun c3 => ?_)
      refine am_W.br rfl rfl (by and_intros <;> first | trivial | exact okI rfl rfl rfl | (refine okrI rfl rfl rfl rfl ?_ ?_ <;> (first | omega | (simp only [HS, FRS, CCS, am_R, TKS, TKU, hC, hCq, hfr] at *; omega))) | (refine okaI rfl rfl rfl rfl ?_ ?_ <;> (first | omega | (simp only [HS, FRS, CCS, am_R, TKS, TKU, hC, hCq, hfr] at *; omega))) | (first | omega | (simp only [HS, FRS, CCS, am_R, TKS, TKU, hC, hCq, hfr] at *; omega)) | (simp only [HS, FRS, CCS, TKS, TKU, hC, hCq, hfr])) (fun c4 => hw (by omega) c2) (fun c4 => ?_)
      exact am_W.br rfl rfl (by and_intros <;> first | trivial | exact okI rfl rfl rfl | (refine okrI rfl rfl rfl rfl ?_ ?_ <;> (first | omega | (simp only [HS, FRS, CCS, am_R, TKS, TKU, hC, hCq, hfr] at *; omega))) | (refine okaI rfl rfl rfl rfl ?_ ?_ <;> (first | omega | (simp only [HS, FRS, CCS, am_R, TKS, TKU, hC, hCq, hfr] at *; omega))) | (first | omega | (simp only [HS, FRS, CCS, am_R, TKS, TKU, hC, hCq, hfr] at *; omega)) | (simp only [HS, FRS, CCS, TKS, TKU, hC, hCq, hfr])) (fun c5 => w c2 (by omega)) (fun c5 => hw (by omega) c2)
    · have c2' : t (f1 15 23) = 34 := by omega
      have hlt := (tx_lt (n := f1 14 23) (T := a1 24) (p := f1 15 23) (by rw [e1]; omega)).2
      refine am_W.rt rfl rfl (by and_intros <;> first | trivial | exact okI rfl rfl rfl | (refine okrI rfl rfl rfl rfl ?_ ?_ <;> (first | omega | (simp only [HS, FRS, CCS, am_R, TKS, TKU, hC, hCq, hfr] at *; omega))) | (refine okaI rfl rfl rfl rfl ?_ ?_ <;> (first | omega | (simp only [HS, FRS, CCS, am_R, TKS, TKU, hC, hCq, hfr] at *; omega))) | (first | omega | (simp only [HS, FRS, CCS, am_R, TKS, TKU, hC, hCq, hfr] at *; omega)) | (simp only [HS, FRS, CCS, TKS, TKU, hC, hCq, hfr])) (RQ_y (a := (l, f1 15 23 + 1)) (by rw [hR, pcs_q k c2']) (hF.tr (Fr_15 (f1 15 23 + 1))) (LI_15 (fi := f1) (x := f1 15 23 + 1) hL ⟨by omega, by omega⟩) ⟨?_, u2s⟩)
      obtain ⟨q1, q2, q3⟩ := hr
      exact ⟨(u2n (by decide)).trans q1, fun q => absurd rfl q, fun q => ⟨(u2n (by decide)).trans (q3 rfl).1, (q3 rfl).2⟩⟩
  intro k
  induction k with
  | zero =>
    intro l f1 a1 i l4 hk hi hF hL hr hR
    have l2 := hL.2.1
    have n1 := hL.1.2.1
    refine hstep 0 l f1 a1 i l4 hk hi hF hL hr hR (fun g1 g2 => ?_)
    obtain ⟨q1, q2, q3⟩ := id hr
    have q4 := (q3 rfl).1
    dsimp only at q4
    refine am_W.br rfl rfl (by and_intros <;> first | trivial | exact okI rfl rfl rfl | (refine okrI rfl rfl rfl rfl ?_ ?_ <;> (first | omega | (simp only [HS, FRS, CCS, am_R, TKS, TKU, hC, hCq, hfr] at *; omega))) | (refine okaI rfl rfl rfl rfl ?_ ?_ <;> (first | omega | (simp only [HS, FRS, CCS, am_R, TKS, TKU, hC, hCq, hfr] at *; omega))) | (first | omega | (simp only [HS, FRS, CCS, am_R, TKS, TKU, hC, hCq, hfr] at *; omega)) | (simp only [HS, FRS, CCS, TKS, TKU, hC, hCq, hfr])) (fun c1 => ?_) (fun c1 => absurd c1 (by (first | omega | (simp only [HS, FRS, CCS, am_R, TKS, TKU, hC, hCq, hfr] at *; omega))))
    refine am_W.br rfl rfl (by and_intros <;> first | trivial | exact okI rfl rfl rfl | (refine okrI rfl rfl rfl rfl ?_ ?_ <;> (first | omega | (simp only [HS, FRS, CCS, am_R, TKS, TKU, hC, hCq, hfr] at *; omega))) | (refine okaI rfl rfl rfl rfl ?_ ?_ <;> (first | omega | (simp only [HS, FRS, CCS, am_R, TKS, TKU, hC, hCq, hfr] at *; omega))) | (first | omega | (simp only [HS, FRS, CCS, am_R, TKS, TKU, hC, hCq, hfr] at *; omega)) | (simp only [HS, FRS, CCS, TKS, TKU, hC, hCq, hfr])) (fun c2 => ?_) (fun c2 => absurd c2 (by omega))
    refine am_W.cv 2 m_Re_mayNot rfl rfl rfl rfl (by and_intros <;> first | trivial | exact okI rfl rfl rfl | (refine okrI rfl rfl rfl rfl ?_ ?_ <;> (first | omega | (simp only [HS, FRS, CCS, am_R, TKS, TKU, hC, hCq, hfr] at *; omega))) | (refine okaI rfl rfl rfl rfl ?_ ?_ <;> (first | omega | (simp only [HS, FRS, CCS, am_R, TKS, TKU, hC, hCq, hfr] at *; omega))) | (first | omega | (simp only [HS, FRS, CCS, am_R, TKS, TKU, hC, hCq, hfr] at *; omega)) | (simp only [HS, FRS, CCS, TKS, TKU, hC, hCq, hfr])) (c_mayNot (d + 1) L B1 B2 f1 a1 aj (f1 15 23)) ?_
    rintro r1 h1 ⟨rfl, rfl⟩
    refine am_W.rt rfl rfl (by and_intros <;> first | trivial | exact okI rfl rfl rfl | (refine okrI rfl rfl rfl rfl ?_ ?_ <;> (first | omega | (simp only [HS, FRS, CCS, am_R, TKS, TKU, hC, hCq, hfr] at *; omega))) | (refine okaI rfl rfl rfl rfl ?_ ?_ <;> (first | omega | (simp only [HS, FRS, CCS, am_R, TKS, TKU, hC, hCq, hfr] at *; omega))) | (first | omega | (simp only [HS, FRS, CCS, am_R, TKS, TKU, hC, hCq, hfr] at *; omega)) | (simp only [HS, FRS, CCS, TKS, TKU, hC, hCq, hfr])) (RQ_f ?_ hF hL)
    rw [hR, pcs_0 g1 g2]
  | succ k ih =>
    intro l f1 a1 i l4 hk hi hF hL hr hR
    have l2 := hL.2.1
    have n1 := hL.1.2.1
    have e1 : tx (f1 14 23) (a1 24) = t := by rw [ht, hF.LT (Or.inr p0)]
    refine hstep (k + 1) l f1 a1 i l4 hk hi hF hL hr hR (fun g1 g2 => ?_)
    have hlt := (tx_lt (n := f1 14 23) (T := a1 24) (p := f1 15 23) (by rw [e1]; omega)).2
    obtain ⟨q1, q2, q3⟩ := id hr
    have q4 := (q3 rfl).1
    dsimp only at q4
    rw [pcs_s k g1 g2] at hR
    refine am_W.br rfl rfl (by and_intros <;> first | trivial | exact okI rfl rfl rfl | (refine okrI rfl rfl rfl rfl ?_ ?_ <;> (first | omega | (simp only [HS, FRS, CCS, am_R, TKS, TKU, hC, hCq, hfr] at *; omega))) | (refine okaI rfl rfl rfl rfl ?_ ?_ <;> (first | omega | (simp only [HS, FRS, CCS, am_R, TKS, TKU, hC, hCq, hfr] at *; omega))) | (first | omega | (simp only [HS, FRS, CCS, am_R, TKS, TKU, hC, hCq, hfr] at *; omega)) | (simp only [HS, FRS, CCS, TKS, TKU, hC, hCq, hfr])) (fun c1 => absurd c1 (by (first | omega | (simp only [HS, FRS, CCS, am_R, TKS, TKU, hC, hCq, hfr] at *; omega)))) (fun c1 => ?_)
    refine am_W.cv 2 m_Re_takePiece rfl rfl rfl rfl (by and_intros <;> first | trivial | exact okI rfl rfl rfl | (refine okrI rfl rfl rfl rfl ?_ ?_ <;> (first | omega | (simp only [HS, FRS, CCS, am_R, TKS, TKU, hC, hCq, hfr] at *; omega))) | (refine okaI rfl rfl rfl rfl ?_ ?_ <;> (first | omega | (simp only [HS, FRS, CCS, am_R, TKS, TKU, hC, hCq, hfr] at *; omega))) | (first | omega | (simp only [HS, FRS, CCS, am_R, TKS, TKU, hC, hCq, hfr] at *; omega)) | (simp only [HS, FRS, CCS, TKS, TKU, hC, hCq, hfr])) (c_takePieceL d L B1 B2 f1 a1 aj p m hp hL hlt hm (by omega)) ?_
    rintro r1 h1 ⟨f2, a2, rfl, hF2, hL2, hm2⟩
    rw [e1] at hm2
    cases hpc : pPc t m (f1 15 23) with
    | inl e =>
      rw [hpc] at hm2 hR
      obtain ⟨rfl, he⟩ := hm2
      refine am_W.br rfl rfl (by and_intros <;> first | trivial | exact okI rfl rfl rfl | (refine okrI rfl rfl rfl rfl ?_ ?_ <;> (first | omega | (simp only [HS, FRS, CCS, am_R, TKS, TKU, hC, hCq, hfr] at *; omega))) | (refine okaI rfl rfl rfl rfl ?_ ?_ <;> (first | omega | (simp only [HS, FRS, CCS, am_R, TKS, TKU, hC, hCq, hfr] at *; omega))) | (first | omega | (simp only [HS, FRS, CCS, am_R, TKS, TKU, hC, hCq, hfr] at *; omega)) | (simp only [HS, FRS, CCS, TKS, TKU, hC, hCq, hfr])) (fun c3 => absurd rfl c3) (fun c3 => ?_)
      exact am_W.rt rfl rfl (by and_intros <;> first | trivial | exact okI rfl rfl rfl | (refine okrI rfl rfl rfl rfl ?_ ?_ <;> (first | omega | (simp only [HS, FRS, CCS, am_R, TKS, TKU, hC, hCq, hfr] at *; omega))) | (refine okaI rfl rfl rfl rfl ?_ ?_ <;> (first | omega | (simp only [HS, FRS, CCS, am_R, TKS, TKU, hC, hCq, hfr] at *; omega))) | (first | omega | (simp only [HS, FRS, CCS, am_R, TKS, TKU, hC, hCq, hfr] at *; omega)) | (simp only [HS, FRS, CCS, TKS, TKU, hC, hCq, hfr])) (RQ_e hR (hF.tr hF2) hL2 he)
    | inr x =>
      rw [hpc] at hm2 hR
      obtain ⟨rfl, m1, m2, m3, m4, m5⟩ := hm2
      refine am_W.br rfl rfl (by and_intros <;> first | trivial | exact okI rfl rfl rfl | (refine okrI rfl rfl rfl rfl ?_ ?_ <;> (first | omega | (simp only [HS, FRS, CCS, am_R, TKS, TKU, hC, hCq, hfr] at *; omega))) | (refine okaI rfl rfl rfl rfl ?_ ?_ <;> (first | omega | (simp only [HS, FRS, CCS, am_R, TKS, TKU, hC, hCq, hfr] at *; omega))) | (first | omega | (simp only [HS, FRS, CCS, am_R, TKS, TKU, hC, hCq, hfr] at *; omega)) | (simp only [HS, FRS, CCS, TKS, TKU, hC, hCq, hfr])) (fun c3 => ?_) (fun c3 => absurd c3 (by decide))
      refine am_W.gp 12 rfl (by and_intros <;> first | trivial | exact okI rfl rfl rfl | (refine okrI rfl rfl rfl rfl ?_ ?_ <;> (first | omega | (simp only [HS, FRS, CCS, am_R, TKS, TKU, hC, hCq, hfr] at *; omega))) | (refine okaI rfl rfl rfl rfl ?_ ?_ <;> (first | omega | (simp only [HS, FRS, CCS, am_R, TKS, TKU, hC, hCq, hfr] at *; omega))) | (first | omega | (simp only [HS, FRS, CCS, am_R, TKS, TKU, hC, hCq, hfr] at *; omega)) | (simp only [HS, FRS, CCS, TKS, TKU, hC, hCq, hfr])) (ih (l ++ [x.1]) f2 a2 _ _ ?_ ?_ (hF.tr hF2) hL2 ⟨?_, ?_, ?_⟩ ?_)
      · rw [List.length_append, List.length_singleton]
        omega
      · rw [List.length_append, List.length_singleton]
        omega
      · rw [m3]
        exact q1
      · exact fun q => absurd rfl q
      · intro _
        dsimp only
        rw [List.length_append, List.length_singleton]
        refine ⟨by omega, ?_⟩
        intro j hj
        rw [m2, getD_app]
        unfold up
        by_cases hjl : j < l.length
        · rw [if_neg (by omega), if_pos hjl]
          exact (q3 rfl).2 j hjl
        · rw [if_pos (by omega), if_neg hjl, if_pos (by omega)]
      · rw [hR, pb_r, m5]
theorem Fr_p {p : Nat} {j : Nat} {fi : Nat → Nat → Int} {ai : Nat → Int → Int} {x : Int} (h : 40 ≤ p) : Fr p (p + 2) fi (am_u2 fi j p x) ai ai := ⟨fun _ _ _ _ q => u2a (by omega), fun _ _ => rfl, u2a (by omega)⟩
theorem LI_p {p : Nat} {j : Nat} {fi : Nat → Nat → Int} {ai : Nat → Int → Int} {x : Int} (h : 40 ≤ p) (hL : LI fi ai) : LI (am_u2 fi j p x) ai := by
  unfold LI
  rw [u2a (by omega), u2a (by omega), u2a (by omega), u2a (by omega), u2a (by omega)]
  exact hL
set_option maxHeartbeats 400000 in
set_option maxRecDepth 100000 in
theorem c_takeTemplate (d L B1 B2 : Nat) (fi : Nat → Nat → Int) (ai aj : Nat → Int → Int) (p : Nat) (m : Int) (hp : PartAt L B1 B2 p) (hm : am_R m) (hL : LI fi ai) : am_M am_prog (d + 3) m_Re_takeTemplate [.inr (.inr 22), .inr (.inr p), .inl m] (HH L B1 B2 fi ai aj) (RQ L B1 B2 aj p (p + 2) fi ai (pcs (tx (fi 14 23) (ai 24)) m 30 (fi 15 23) []) (fun fi' ai' x => RepP fi' ai' p (0, 0, x.1) ∧ fi' 15 23 = x.2)) := by
  obtain ⟨p0, p1, hC, hCq, hfr⟩ := id hp
  refine am_W.of rfl rfl ?_
  refine am_W.gp 12 rfl (by and_intros <;> first | trivial | exact okI rfl rfl rfl | (refine okrI rfl rfl rfl rfl ?_ ?_ <;> (first | omega | (simp only [HS, FRS, CCS, am_R, TKS, TKU, hC, hCq, hfr] at *; omega))) | (refine okaI rfl rfl rfl rfl ?_ ?_ <;> (first | omega | (simp only [HS, FRS, CCS, am_R, TKS, TKU, hC, hCq, hfr] at *; omega))) | (first | omega | (simp only [HS, FRS, CCS, am_R, TKS, TKU, hC, hCq, hfr] at *; omega)) | (simp only [HS, FRS, CCS, TKS, TKU, hC, hCq, hfr])) (l_template d L B1 B2 fi ai aj p m hp hm _ rfl _ 30 [] (am_u2 (am_u2 fi 50 p 0) 53 p 0) ai 0 none rfl rfl ((Fr_p p0).tr (Fr_p p0)) (LI_p p0 (LI_p p0 hL)) ⟨?_, fun q => absurd rfl q, fun _ => ⟨u2s, fun i hi => absurd hi (Nat.not_lt_zero i)⟩⟩ ?_)
  · rw [u2n (by decide), u2s]
  · rw [u2a (by omega), u2a (by omega)]
set_option maxHeartbeats 400000 in
set_option maxRecDepth 100000 in
theorem c_takeName (d L B1 B2 : Nat) (fi : Nat → Nat → Int) (ai aj : Nat → Int → Int) (p : Nat) (m : Int) (σ : Tk) (hp : PartAt L B1 B2 p) (hm : am_R m) (hL : LI fi ai) (hT : TC fi σ) (hR : am_R σ.2.1) : am_M am_prog (d + 4) m_Re_takeName [.inr (.inr 22), .inr (.inr p), .inl m] (HH L B1 B2 fi ai aj) (RQ L B1 B2 aj p (p + 2) fi ai (pName (tx (fi 14 23) (ai 24)) m σ) (fun fi' ai' x => RepP fi' ai' p x.1 ∧ fi' 15 23 = x.2)) := by
  obtain ⟨p0, p1, hC, hCq, hfr⟩ := id hp
  obtain ⟨t1, t2, t3, t4⟩ := id hT
  rw [← t2] at hR
  refine am_W.of rfl rfl ?_
  refine am_W.br rfl rfl (by and_intros <;> first | trivial | exact okI rfl rfl rfl | (refine okrI rfl rfl rfl rfl ?_ ?_ <;> (first | omega | (simp only [HS, FRS, CCS, am_R, TKS, TKU, hC, hCq, hfr] at *; omega))) | (refine okaI rfl rfl rfl rfl ?_ ?_ <;> (first | omega | (simp only [HS, FRS, CCS, am_R, TKS, TKU, hC, hCq, hfr] at *; omega))) | (first | omega | (simp only [HS, FRS, CCS, am_R, TKS, TKU, hC, hCq, hfr] at *; omega)) | (simp only [HS, FRS, CCS, TKS, TKU, hC, hCq, hfr])) (fun c1 => ?_) (fun c1 => ?_)
  · simp only [HS, FRS, TKS, TKU, hC, hCq, hfr] at c1
    refine am_W.br rfl rfl (by and_intros <;> first | trivial | exact okI rfl rfl rfl | (refine okrI rfl rfl rfl rfl ?_ ?_ <;> (first | omega | (simp only [HS, FRS, CCS, am_R, TKS, TKU, hC, hCq, hfr] at *; omega))) | (refine okaI rfl rfl rfl rfl ?_ ?_ <;> (first | omega | (simp only [HS, FRS, CCS, am_R, TKS, TKU, hC, hCq, hfr] at *; omega))) | (first | omega | (simp only [HS, FRS, CCS, am_R, TKS, TKU, hC, hCq, hfr] at *; omega)) | (simp only [HS, FRS, CCS, TKS, TKU, hC, hCq, hfr])) (fun c2 => ?_) (fun c2 => ?_)
    · simp only [HS, FRS, TKS, TKU, hC, hCq, hfr] at c2
      refine am_W.cv 2 m_Re_nextIsNumberBelow rfl rfl rfl rfl (by and_intros <;> first | trivial | exact okI rfl rfl rfl | (refine okrI rfl rfl rfl rfl ?_ ?_ <;> (first | omega | (simp only [HS, FRS, CCS, am_R, TKS, TKU, hC, hCq, hfr] at *; omega))) | (refine okaI rfl rfl rfl rfl ?_ ?_ <;> (first | omega | (simp only [HS, FRS, CCS, am_R, TKS, TKU, hC, hCq, hfr] at *; omega))) | (first | omega | (simp only [HS, FRS, CCS, am_R, TKS, TKU, hC, hCq, hfr] at *; omega)) | (simp only [HS, FRS, CCS, TKS, TKU, hC, hCq, hfr])) (c_nextNum d L B1 B2 fi ai aj m hm hL) ?_
      rintro r1 h1 ⟨f2, a2, rfl, hF2, hL2, hm2⟩
      have hR2 : pName (tx (fi 14 23) (ai 24)) m σ = pb (pNum (tx (fi 14 23) (ai 24)) m (fi 15 23)) fun y => .inr ((1, y.2.2.1, []), y.2.2.2) := by rw [pName, if_neg (by omega), if_pos (by omega), t4]
      cases hpc : pNum (tx (fi 14 23) (ai 24)) m (fi 15 23) with
      | inl e =>
        rw [hpc] at hm2 hR2
        obtain ⟨rfl, he⟩ := hm2
        refine am_W.br rfl rfl (by and_intros <;> first | trivial | exact okI rfl rfl rfl | (refine okrI rfl rfl rfl rfl ?_ ?_ <;> (first | omega | (simp only [HS, FRS, CCS, am_R, TKS, TKU, hC, hCq, hfr] at *; omega))) | (refine okaI rfl rfl rfl rfl ?_ ?_ <;> (first | omega | (simp only [HS, FRS, CCS, am_R, TKS, TKU, hC, hCq, hfr] at *; omega))) | (first | omega | (simp only [HS, FRS, CCS, am_R, TKS, TKU, hC, hCq, hfr] at *; omega)) | (simp only [HS, FRS, CCS, TKS, TKU, hC, hCq, hfr])) (fun c3 => absurd rfl c3) (fun c3 => ?_)
        exact am_W.rt rfl rfl (by and_intros <;> first | trivial | exact okI rfl rfl rfl | (refine okrI rfl rfl rfl rfl ?_ ?_ <;> (first | omega | (simp only [HS, FRS, CCS, am_R, TKS, TKU, hC, hCq, hfr] at *; omega))) | (refine okaI rfl rfl rfl rfl ?_ ?_ <;> (first | omega | (simp only [HS, FRS, CCS, am_R, TKS, TKU, hC, hCq, hfr] at *; omega))) | (first | omega | (simp only [HS, FRS, CCS, am_R, TKS, TKU, hC, hCq, hfr] at *; omega)) | (simp only [HS, FRS, CCS, TKS, TKU, hC, hCq, hfr])) (RQ_e hR2 (hF2.mo (Or.inl rfl)) hL2 he)
      | inr y =>
        rw [hpc] at hm2 hR2
        obtain ⟨rfl, hT2, m1, m2⟩ := hm2
        refine am_W.br rfl rfl (by and_intros <;> first | trivial | exact okI rfl rfl rfl | (refine okrI rfl rfl rfl rfl ?_ ?_ <;> (first | omega | (simp only [HS, FRS, CCS, am_R, TKS, TKU, hC, hCq, hfr] at *; omega))) | (refine okaI rfl rfl rfl rfl ?_ ?_ <;> (first | omega | (simp only [HS, FRS, CCS, am_R, TKS, TKU, hC, hCq, hfr] at *; omega))) | (first | omega | (simp only [HS, FRS, CCS, am_R, TKS, TKU, hC, hCq, hfr] at *; omega)) | (simp only [HS, FRS, CCS, TKS, TKU, hC, hCq, hfr])) (fun c3 => ?_) (fun c3 => absurd c3 (by decide))
        refine am_W.rt rfl rfl (by and_intros <;> first | trivial | exact okI rfl rfl rfl | (refine okrI rfl rfl rfl rfl ?_ ?_ <;> (first | omega | (simp only [HS, FRS, CCS, am_R, TKS, TKU, hC, hCq, hfr] at *; omega))) | (refine okaI rfl rfl rfl rfl ?_ ?_ <;> (first | omega | (simp only [HS, FRS, CCS, am_R, TKS, TKU, hC, hCq, hfr] at *; omega))) | (first | omega | (simp only [HS, FRS, CCS, am_R, TKS, TKU, hC, hCq, hfr] at *; omega)) | (simp only [HS, FRS, CCS, TKS, TKU, hC, hCq, hfr])) (RQ_y (f1 := am_u2 (am_u2 f2 50 p 1) 51 p (f2 18 23)) hR2 ((hF2.mo (Or.inl rfl)).tr ((Fr_p p0).tr (Fr_p p0))) (LI_p p0 (LI_p p0 hL2)) ⟨⟨?_, fun _ => ?_, fun q => absurd q (show ¬ (1 : Int) = 0 by decide)⟩, ?_⟩)
        · rw [u2n (by decide), u2s]
        · rw [u2s]
          exact m1
        · rw [u2a (by omega), u2a (by omega)]
          exact hT2.2.2.2
    · simp only [HS, FRS, TKS, TKU, hC, hCq, hfr] at c2
      refine am_W.cv 2 m_Re_wrong rfl rfl rfl rfl (by and_intros <;> first | trivial | exact okI rfl rfl rfl | (refine okrI rfl rfl rfl rfl ?_ ?_ <;> (first | omega | (simp only [HS, FRS, CCS, am_R, TKS, TKU, hC, hCq, hfr] at *; omega))) | (refine okaI rfl rfl rfl rfl ?_ ?_ <;> (first | omega | (simp only [HS, FRS, CCS, am_R, TKS, TKU, hC, hCq, hfr] at *; omega))) | (first | omega | (simp only [HS, FRS, CCS, am_R, TKS, TKU, hC, hCq, hfr] at *; omega)) | (simp only [HS, FRS, CCS, TKS, TKU, hC, hCq, hfr])) (c_wrong (d + 2) L B1 B2 fi ai aj (fi 16 23)) ?_
      rintro r1 h1 ⟨rfl, rfl⟩
      refine am_W.rt rfl rfl (by and_intros <;> first | trivial | exact okI rfl rfl rfl | (refine okrI rfl rfl rfl rfl ?_ ?_ <;> (first | omega | (simp only [HS, FRS, CCS, am_R, TKS, TKU, hC, hCq, hfr] at *; omega))) | (refine okaI rfl rfl rfl rfl ?_ ?_ <;> (first | omega | (simp only [HS, FRS, CCS, am_R, TKS, TKU, hC, hCq, hfr] at *; omega))) | (first | omega | (simp only [HS, FRS, CCS, am_R, TKS, TKU, hC, hCq, hfr] at *; omega)) | (simp only [HS, FRS, CCS, TKS, TKU, hC, hCq, hfr])) (RQ_f ?_ Fr.rf hL)
      rw [pName, if_neg (by omega), if_neg (by omega), t1]
  · simp only [HS, FRS, TKS, TKU, hC, hCq, hfr] at c1
    refine am_W.cv 2 m_Re_takeTemplate rfl rfl rfl rfl (by and_intros <;> first | trivial | exact okI rfl rfl rfl | (refine okrI rfl rfl rfl rfl ?_ ?_ <;> (first | omega | (simp only [HS, FRS, CCS, am_R, TKS, TKU, hC, hCq, hfr] at *; omega))) | (refine okaI rfl rfl rfl rfl ?_ ?_ <;> (first | omega | (simp only [HS, FRS, CCS, am_R, TKS, TKU, hC, hCq, hfr] at *; omega))) | (first | omega | (simp only [HS, FRS, CCS, am_R, TKS, TKU, hC, hCq, hfr] at *; omega)) | (simp only [HS, FRS, CCS, TKS, TKU, hC, hCq, hfr])) (c_takeTemplate d L B1 B2 fi ai aj p m hp hm hL) ?_
    rintro r1 h1 ⟨f2, a2, rfl, hF2, hL2, hm2⟩
    have hR2 : pName (tx (fi 14 23) (ai 24)) m σ = pb (pcs (tx (fi 14 23) (ai 24)) m 30 (fi 15 23) []) fun x => .inr ((0, 0, x.1), x.2) := by rw [pName, if_pos (by omega), t4]
    cases hpc : pcs (tx (fi 14 23) (ai 24)) m 30 (fi 15 23) [] with
    | inl e =>
      rw [hpc] at hm2 hR2
      obtain ⟨rfl, he⟩ := hm2
      exact am_W.rt rfl rfl (by and_intros <;> first | trivial | exact okI rfl rfl rfl | (refine okrI rfl rfl rfl rfl ?_ ?_ <;> (first | omega | (simp only [HS, FRS, CCS, am_R, TKS, TKU, hC, hCq, hfr] at *; omega))) | (refine okaI rfl rfl rfl rfl ?_ ?_ <;> (first | omega | (simp only [HS, FRS, CCS, am_R, TKS, TKU, hC, hCq, hfr] at *; omega))) | (first | omega | (simp only [HS, FRS, CCS, am_R, TKS, TKU, hC, hCq, hfr] at *; omega)) | (simp only [HS, FRS, CCS, TKS, TKU, hC, hCq, hfr])) (RQ_e hR2 hF2 hL2 he)
    | inr y =>
      rw [hpc] at hm2 hR2
      obtain ⟨rfl, m1, m2⟩ := hm2
      exact am_W.rt rfl rfl (by and_intros <;> first | trivial | exact okI rfl rfl rfl | (refine okrI rfl rfl rfl rfl ?_ ?_ <;> (first | omega | (simp only [HS, FRS, CCS, am_R, TKS, TKU, hC, hCq, hfr] at *; omega))) | (refine okaI rfl rfl rfl rfl ?_ ?_ <;> (first | omega | (simp only [HS, FRS, CCS, am_R, TKS, TKU, hC, hCq, hfr] at *; omega))) | (first | omega | (simp only [HS, FRS, CCS, am_R, TKS, TKU, hC, hCq, hfr] at *; omega)) | (simp only [HS, FRS, CCS, TKS, TKU, hC, hCq, hfr])) (RQ_y hR2 hF2 hL2 ⟨m1, m2⟩)
