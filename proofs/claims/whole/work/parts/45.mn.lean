-- the reference's tokens: the object at 126, its text at 131
def mk (fi : Nat → Nat → Int) (τ : Tk) : Nat → Nat → Int := fun j b => if b = 126 then (if j = 87 then τ.1 else if j = 88 then τ.2.1 else if j = 89 then τ.2.2.1 else if j = 90 then τ.2.2.2 else fi j b) else fi j b
theorem MKS : (∀ fi τ, mk fi τ 60 126 = fi 60 126) ∧ (∀ fi k v p b, mk fi (k, v, p, b) 87 126 = k) ∧ (∀ fi k v p b, mk fi (k, v, p, b) 88 126 = v) ∧ (∀ fi k v p b, mk fi (k, v, p, b) 89 126 = p) ∧ (∀ fi k v p b, mk fi (k, v, p, b) 90 126 = b) ∧ (∀ fi τ, mk fi τ 54 126 = fi 54 126) ∧ (∀ fi τ, mk fi τ 91 126 = fi 91 126) ∧ (∀ fi τ, mk fi τ 92 126 = fi 92 126) ∧ (∀ fi τ, mk fi τ 93 126 = fi 93 126) ∧ (∀ fi τ, mk fi τ 74 126 = fi 74 126) := ⟨fun _ _ => rfl, fun _ _ _ _ _ => rfl, fun _ _ _ _ _ => rfl, fun _ _ _ _ _ => rfl, fun _ _ _ _ _ => rfl, fun _ _ => rfl, fun _ _ => rfl, fun _ _ => rfl, fun _ _ => rfl, fun _ _ => rfl⟩
theorem MKU : (∀ fi k v p b x, am_u2 (mk fi (k, v, p, b)) 87 126 x = mk fi (x, v, p, b)) ∧ (∀ fi k v p b x, am_u2 (mk fi (k, v, p, b)) 88 126 x = mk fi (k, x, p, b)) ∧ (∀ fi k v p b x, am_u2 (mk fi (k, v, p, b)) 89 126 x = mk fi (k, v, x, b)) ∧ (∀ fi k v p b x, am_u2 (mk fi (k, v, p, b)) 90 126 x = mk fi (k, v, p, x)) := by
  refine ⟨?_, ?_, ?_, ?_⟩ <;> intro fi s q v b x <;> funext j c <;> by_cases h0 : c = 126 <;> by_cases h1 : j = 87 <;> by_cases h2 : j = 88 <;> by_cases h3 : j = 89 <;> by_cases h4 : j = 90 <;> simp [mk, am_u2, h0, h1, h2, h3, h4] <;> omega
theorem mk_id (fi : Nat → Nat → Int) : mk fi (fi 87 126, fi 88 126, fi 89 126, fi 90 126) = fi := by
  funext j c
  by_cases h0 : c = 126 <;> by_cases h1 : j = 87 <;> by_cases h2 : j = 88 <;> by_cases h3 : j = 89 <;> by_cases h4 : j = 90 <;> simp [mk, h0, h1, h2, h3, h4]
theorem mk_n (fi : Nat → Nat → Int) (τ : Tk) {j b : Nat} (h : b ≠ 126) : mk fi τ j b = fi j b := if_neg h
theorem mk_mk (fi : Nat → Nat → Int) (τ σ : Tk) : mk (mk fi τ) σ = mk fi σ := by
  funext j c
  by_cases h0 : c = 126 <;> by_cases h1 : j = 87 <;> by_cases h2 : j = 88 <;> by_cases h3 : j = 89 <;> by_cases h4 : j = 90 <;> simp [mk, h0, h1, h2, h3, h4]
def ch (t : Int → Int) (i : Int) : Int := if t i = -1 then 0 else t i
set_option maxHeartbeats 400000 in
set_option maxRecDepth 100000 in
theorem c_Mo_charAt (d L B1 B2 : Nat) (fi : Nat → Nat → Int) (ai aj : Nat → Int → Int) (i : Int) (hI : txI (fi 60 126) (ai 131)) (h0 : 0 ≤ i) (h1 : am_R i) : am_M am_prog (d + 1) m_Mo_charAt [.inr (.inr 126), .inl i] (HH L B1 B2 fi ai aj) (fun w h' => w = some (.inl (ch (tx (fi 60 126) (ai 131)) i)) ∧ h' = HH L B1 B2 fi ai aj) := by
  obtain ⟨n0, n1, n2⟩ := id hI
  refine am_W.of rfl rfl ?_
  unfold ch
  refine am_W.br rfl rfl (by and_intros <;> first | trivial | exact okI rfl rfl rfl | (refine okrI rfl rfl rfl rfl ?_ ?_ <;> (first | omega | (simp only [HS, FRS, CCS, am_R, MKS, MKU] at *; omega))) | (refine okaI rfl rfl rfl rfl ?_ ?_ <;> (first | omega | (simp only [HS, FRS, CCS, am_R, MKS, MKU] at *; omega))) | (first | omega | (simp only [HS, FRS, CCS, am_R, MKS, MKU] at *; omega))) (fun c1 => ?_) (fun c1 => ?_)
  · simp only [HS, FRS, MKS, MKU] at c1
    rw [if_pos (tx_o c1)]
    exact am_W.rt rfl rfl (by and_intros <;> first | trivial | exact okI rfl rfl rfl | (refine okrI rfl rfl rfl rfl ?_ ?_ <;> (first | omega | (simp only [HS, FRS, CCS, am_R, MKS, MKU] at *; omega))) | (refine okaI rfl rfl rfl rfl ?_ ?_ <;> (first | omega | (simp only [HS, FRS, CCS, am_R, MKS, MKU] at *; omega))) | (first | omega | (simp only [HS, FRS, CCS, am_R, MKS, MKU] at *; omega))) ⟨rfl, rfl⟩
  · simp only [HS, FRS, MKS, MKU] at c1
    have := n2 i h0 (by omega)
    rw [tx_i h0 (by omega), if_neg (by omega)]
    exact am_W.rt rfl rfl (by and_intros <;> first | trivial | exact okI rfl rfl rfl | (refine okrI rfl rfl rfl rfl ?_ ?_ <;> (first | omega | (simp only [HS, FRS, CCS, am_R, MKS, MKU] at *; omega))) | (refine okaI rfl rfl rfl rfl ?_ ?_ <;> (first | omega | (simp only [HS, FRS, CCS, am_R, MKS, MKU] at *; omega))) | (first | omega | (simp only [HS, FRS, CCS, am_R, MKS, MKU] at *; omega))) ⟨rfl, rfl⟩
set_option maxHeartbeats 400000 in
set_option maxRecDepth 100000 in
theorem c_Mo_isSmall (d : Nat) (x : Int) (h : am_H) (hx : am_R x) : am_M am_prog (d + 1) m_Mo_isSmall [.inl x] h (fun v h' => v = some (.inl (if ltr x then 1 else 0)) ∧ h' = h) := by
  refine am_W.of rfl rfl ?_
  refine am_W.br rfl rfl (by and_intros <;> first | trivial | exact okI rfl rfl rfl | (refine okrI rfl rfl rfl rfl ?_ ?_ <;> (first | omega | (simp only [HS, FRS, CCS, am_R, MKS, MKU] at *; omega))) | (refine okaI rfl rfl rfl rfl ?_ ?_ <;> (first | omega | (simp only [HS, FRS, CCS, am_R, MKS, MKU] at *; omega))) | (first | omega | (simp only [HS, FRS, CCS, am_R, MKS, MKU] at *; omega))) (fun c1 => ?_) (fun c1 => ?_)
  · rw [if_neg (by omega)]
    exact am_W.rt rfl rfl (by and_intros <;> first | trivial | exact okI rfl rfl rfl | (refine okrI rfl rfl rfl rfl ?_ ?_ <;> (first | omega | (simp only [HS, FRS, CCS, am_R, MKS, MKU] at *; omega))) | (refine okaI rfl rfl rfl rfl ?_ ?_ <;> (first | omega | (simp only [HS, FRS, CCS, am_R, MKS, MKU] at *; omega))) | (first | omega | (simp only [HS, FRS, CCS, am_R, MKS, MKU] at *; omega))) ⟨rfl, rfl⟩
  · refine am_W.br rfl rfl (by and_intros <;> first | trivial | exact okI rfl rfl rfl | (refine okrI rfl rfl rfl rfl ?_ ?_ <;> (first | omega | (simp only [HS, FRS, CCS, am_R, MKS, MKU] at *; omega))) | (refine okaI rfl rfl rfl rfl ?_ ?_ <;> (first | omega | (simp only [HS, FRS, CCS, am_R, MKS, MKU] at *; omega))) | (first | omega | (simp only [HS, FRS, CCS, am_R, MKS, MKU] at *; omega))) (fun c2 => ?_) (fun c2 => ?_)
    · rw [if_neg (by omega)]
      exact am_W.rt rfl rfl (by and_intros <;> first | trivial | exact okI rfl rfl rfl | (refine okrI rfl rfl rfl rfl ?_ ?_ <;> (first | omega | (simp only [HS, FRS, CCS, am_R, MKS, MKU] at *; omega))) | (refine okaI rfl rfl rfl rfl ?_ ?_ <;> (first | omega | (simp only [HS, FRS, CCS, am_R, MKS, MKU] at *; omega))) | (first | omega | (simp only [HS, FRS, CCS, am_R, MKS, MKU] at *; omega))) ⟨rfl, rfl⟩
    · rw [if_pos (by omega)]
      exact am_W.rt rfl rfl (by and_intros <;> first | trivial | exact okI rfl rfl rfl | (refine okrI rfl rfl rfl rfl ?_ ?_ <;> (first | omega | (simp only [HS, FRS, CCS, am_R, MKS, MKU] at *; omega))) | (refine okaI rfl rfl rfl rfl ?_ ?_ <;> (first | omega | (simp only [HS, FRS, CCS, am_R, MKS, MKU] at *; omega))) | (first | omega | (simp only [HS, FRS, CCS, am_R, MKS, MKU] at *; omega))) ⟨rfl, rfl⟩
abbrev dgt (c : Int) : Prop := 48 ≤ c ∧ c ≤ 57
set_option maxHeartbeats 400000 in
set_option maxRecDepth 100000 in
theorem c_Mo_isDigit (d : Nat) (x : Int) (h : am_H) (hx : am_R x) : am_M am_prog (d + 1) m_Mo_isDigit [.inl x] h (fun v h' => v = some (.inl (if dgt x then 1 else 0)) ∧ h' = h) := by
  refine am_W.of rfl rfl ?_
  refine am_W.br rfl rfl (by and_intros <;> first | trivial | exact okI rfl rfl rfl | (refine okrI rfl rfl rfl rfl ?_ ?_ <;> (first | omega | (simp only [HS, FRS, CCS, am_R, MKS, MKU] at *; omega))) | (refine okaI rfl rfl rfl rfl ?_ ?_ <;> (first | omega | (simp only [HS, FRS, CCS, am_R, MKS, MKU] at *; omega))) | (first | omega | (simp only [HS, FRS, CCS, am_R, MKS, MKU] at *; omega))) (fun c1 => ?_) (fun c1 => ?_)
  · rw [if_neg (by omega)]
    exact am_W.rt rfl rfl (by and_intros <;> first | trivial | exact okI rfl rfl rfl | (refine okrI rfl rfl rfl rfl ?_ ?_ <;> (first | omega | (simp only [HS, FRS, CCS, am_R, MKS, MKU] at *; omega))) | (refine okaI rfl rfl rfl rfl ?_ ?_ <;> (first | omega | (simp only [HS, FRS, CCS, am_R, MKS, MKU] at *; omega))) | (first | omega | (simp only [HS, FRS, CCS, am_R, MKS, MKU] at *; omega))) ⟨rfl, rfl⟩
  · refine am_W.br rfl rfl (by and_intros <;> first | trivial | exact okI rfl rfl rfl | (refine okrI rfl rfl rfl rfl ?_ ?_ <;> (first | omega | (simp only [HS, FRS, CCS, am_R, MKS, MKU] at *; omega))) | (refine okaI rfl rfl rfl rfl ?_ ?_ <;> (first | omega | (simp only [HS, FRS, CCS, am_R, MKS, MKU] at *; omega))) | (first | omega | (simp only [HS, FRS, CCS, am_R, MKS, MKU] at *; omega))) (fun c2 => ?_) (fun c2 => ?_)
    · rw [if_neg (by omega)]
      exact am_W.rt rfl rfl (by and_intros <;> first | trivial | exact okI rfl rfl rfl | (refine okrI rfl rfl rfl rfl ?_ ?_ <;> (first | omega | (simp only [HS, FRS, CCS, am_R, MKS, MKU] at *; omega))) | (refine okaI rfl rfl rfl rfl ?_ ?_ <;> (first | omega | (simp only [HS, FRS, CCS, am_R, MKS, MKU] at *; omega))) | (first | omega | (simp only [HS, FRS, CCS, am_R, MKS, MKU] at *; omega))) ⟨rfl, rfl⟩
    · rw [if_pos (by omega)]
      exact am_W.rt rfl rfl (by and_intros <;> first | trivial | exact okI rfl rfl rfl | (refine okrI rfl rfl rfl rfl ?_ ?_ <;> (first | omega | (simp only [HS, FRS, CCS, am_R, MKS, MKU] at *; omega))) | (refine okaI rfl rfl rfl rfl ?_ ?_ <;> (first | omega | (simp only [HS, FRS, CCS, am_R, MKS, MKU] at *; omega))) | (first | omega | (simp only [HS, FRS, CCS, am_R, MKS, MKU] at *; omega))) ⟨rfl, rfl⟩
theorem ch_R {n : Int} {T : Int → Int} (hI : txI n T) (i : Int) : am_R (ch (tx n T) i) := by
  have := tx_R hI i
  unfold ch
  split
  · exact am_R0
  · constructor <;> omega
theorem ch_l {t : Int → Int} {i : Int} : ltr (ch t i) ↔ ltr (t i) := by
  unfold ch
  split
  · omega
  · exact Iff.rfl
theorem ch_d {t : Int → Int} {i : Int} : dgt (ch t i) ↔ dgt (t i) := by
  unfold ch
  split
  · omega
  · exact Iff.rfl
set_option maxHeartbeats 400000 in
set_option maxRecDepth 100000 in
theorem c_Mo_isAt (d L B1 B2 : Nat) (fi : Nat → Nat → Int) (ai aj : Nat → Int → Int) (s b a c e f : Int) (hI : txI (fi 60 126) (ai 131)) (h0 : 0 ≤ s) (h1 : s ≤ b) (h2 : b ≤ fi 60 126) (ha : am_R a ∧ am_R c ∧ am_R e ∧ am_R f) (he : 0 ≤ e ∧ (0 < f → 0 < e)) : am_M am_prog (d + 1) m_Mo_isAt [.inr (.inr 126), .inl s, .inl b, .inl a, .inl c, .inl e, .inl f] (HH L B1 B2 fi ai aj) (fun w h' => ((wat (tx (fi 60 126) (ai 131)) s b a c e f ∧ w = some (.inl 1)) ∨ (¬ wat (tx (fi 60 126) (ai 131)) s b a c e f ∧ w = some (.inl 0))) ∧ h' = HH L B1 B2 fi ai aj) := by
  obtain ⟨n0, n1, n2⟩ := id hI
  refine am_W.of rfl rfl ?_
  have hgo : ∀ N : Int, N = (if 0 < f then 4 else if 0 < e then 3 else 2) → am_W (am_ev am_prog d) T_Mo_isAt (fun w h' => ((wat (tx (fi 60 126) (ai 131)) s b a c e f ∧ w = some (.inl 1)) ∨ (¬ wat (tx (fi 60 126) (ai 131)) s b a c e f ∧ w = some (.inl 0))) ∧ h' = HH L B1 B2 fi ai aj) (21, [some (.inr (.inr 126)), some (.inl s), some (.inl b), some (.inl a), some (.inl c), some (.inl e), some (.inl f), some (.inl N)], [], HH L B1 B2 fi ai aj) := by
    intro N hN
    have hy : wat (tx (fi 60 126) (ai 131)) s b a c e f → am_W (am_ev am_prog d) T_Mo_isAt (fun w h' => ((wat (tx (fi 60 126) (ai 131)) s b a c e f ∧ w = some (.inl 1)) ∨ (¬ wat (tx (fi 60 126) (ai 131)) s b a c e f ∧ w = some (.inl 0))) ∧ h' = HH L B1 B2 fi ai aj) (90, [some (.inr (.inr 126)), some (.inl s), some (.inl b), some (.inl a), some (.inl c), some (.inl e), some (.inl f), some (.inl N)], [], HH L B1 B2 fi ai aj) := fun q => am_W.rt rfl rfl (by and_intros <;> first | trivial | exact okI rfl rfl rfl | (refine okrI rfl rfl rfl rfl ?_ ?_ <;> (first | omega | (simp only [HS, FRS, CCS, am_R, MKS, MKU] at *; omega))) | (refine okaI rfl rfl rfl rfl ?_ ?_ <;> (first | omega | (simp only [HS, FRS, CCS, am_R, MKS, MKU] at *; omega))) | (first | omega | (simp only [HS, FRS, CCS, am_R, MKS, MKU] at *; omega))) ⟨Or.inl ⟨q, rfl⟩, rfl⟩
    have hn : ¬ wat (tx (fi 60 126) (ai 131)) s b a c e f → am_W (am_ev am_prog d) T_Mo_isAt (fun w h' => ((wat (tx (fi 60 126) (ai 131)) s b a c e f ∧ w = some (.inl 1)) ∨ (¬ wat (tx (fi 60 126) (ai 131)) s b a c e f ∧ w = some (.inl 0))) ∧ h' = HH L B1 B2 fi ai aj) (94, [some (.inr (.inr 126)), some (.inl s), some (.inl b), some (.inl a), some (.inl c), some (.inl e), some (.inl f), some (.inl N)], [], HH L B1 B2 fi ai aj) := fun q => am_W.rt rfl rfl (by and_intros <;> first | trivial | exact okI rfl rfl rfl | (refine okrI rfl rfl rfl rfl ?_ ?_ <;> (first | omega | (simp only [HS, FRS, CCS, am_R, MKS, MKU] at *; omega))) | (refine okaI rfl rfl rfl rfl ?_ ?_ <;> (first | omega | (simp only [HS, FRS, CCS, am_R, MKS, MKU] at *; omega))) | (first | omega | (simp only [HS, FRS, CCS, am_R, MKS, MKU] at *; omega))) ⟨Or.inr ⟨q, rfl⟩, rfl⟩
    have hN2 : 2 ≤ N ∧ N ≤ 4 ∧ (3 ≤ N ↔ (0 < e ∨ 0 < f)) ∧ (4 ≤ N ↔ 0 < f) := by
      rw [hN]
      split
      · omega
      · split <;> omega
    refine am_W.br rfl rfl (by and_intros <;> first | trivial | exact okI rfl rfl rfl | (refine okrI rfl rfl rfl rfl ?_ ?_ <;> (first | omega | (simp only [HS, FRS, CCS, am_R, MKS, MKU] at *; omega))) | (refine okaI rfl rfl rfl rfl ?_ ?_ <;> (first | omega | (simp only [HS, FRS, CCS, am_R, MKS, MKU] at *; omega))) | (first | omega | (simp only [HS, FRS, CCS, am_R, MKS, MKU] at *; omega))) (fun c1 => hn (fun w => c1 (by rw [hN]; exact w.1))) (fun c1 => ?_)
    have hb : b - s = N := by omega
    have t0 := n2 s (by omega) (by omega)
    have t1 := n2 (s + 1) (by omega) (by omega)
    have e0 : tx (fi 60 126) (ai 131) s = ai 131 s := tx_i (by omega) (by omega)
    have e1 : tx (fi 60 126) (ai 131) (s + 1) = ai 131 (s + 1) := tx_i (by omega) (by omega)
    refine am_W.br rfl rfl (by and_intros <;> first | trivial | exact okI rfl rfl rfl | (refine okrI rfl rfl rfl rfl ?_ ?_ <;> (first | omega | (simp only [HS, FRS, CCS, am_R, MKS, MKU] at *; omega))) | (refine okaI rfl rfl rfl rfl ?_ ?_ <;> (first | omega | (simp only [HS, FRS, CCS, am_R, MKS, MKU] at *; omega))) | (first | omega | (simp only [HS, FRS, CCS, am_R, MKS, MKU] at *; omega))) (fun c2 => hn (fun w => c2 (by simp only [HS, FRS, MKS, MKU]; rw [← e0]; exact w.2.1))) (fun c2 => ?_)
    simp only [HS, FRS, MKS, MKU] at c2
    refine am_W.br rfl rfl (by and_intros <;> first | trivial | exact okI rfl rfl rfl | (refine okrI rfl rfl rfl rfl ?_ ?_ <;> (first | omega | (simp only [HS, FRS, CCS, am_R, MKS, MKU] at *; omega))) | (refine okaI rfl rfl rfl rfl ?_ ?_ <;> (first | omega | (simp only [HS, FRS, CCS, am_R, MKS, MKU] at *; omega))) | (first | omega | (simp only [HS, FRS, CCS, am_R, MKS, MKU] at *; omega))) (fun c3 => hn (fun w => c3 (by simp only [HS, FRS, MKS, MKU]; rw [← e1]; exact w.2.2.1))) (fun c3 => ?_)
    simp only [HS, FRS, MKS, MKU] at c3
    have hlast : (0 < e ∨ 0 < f → tx (fi 60 126) (ai 131) (s + 2) = e) → am_W (am_ev am_prog d) T_Mo_isAt (fun w h' => ((wat (tx (fi 60 126) (ai 131)) s b a c e f ∧ w = some (.inl 1)) ∨ (¬ wat (tx (fi 60 126) (ai 131)) s b a c e f ∧ w = some (.inl 0))) ∧ h' = HH L B1 B2 fi ai aj) (71, [some (.inr (.inr 126)), some (.inl s), some (.inl b), some (.inl a), some (.inl c), some (.inl e), some (.inl f), some (.inl N)], [], HH L B1 B2 fi ai aj) := by
      intro hq
      refine am_W.br rfl rfl (by and_intros <;> first | trivial | exact okI rfl rfl rfl | (refine okrI rfl rfl rfl rfl ?_ ?_ <;> (first | omega | (simp only [HS, FRS, CCS, am_R, MKS, MKU] at *; omega))) | (refine okaI rfl rfl rfl rfl ?_ ?_ <;> (first | omega | (simp only [HS, FRS, CCS, am_R, MKS, MKU] at *; omega))) | (first | omega | (simp only [HS, FRS, CCS, am_R, MKS, MKU] at *; omega))) (fun c4 => hy ⟨by rw [← hN]; exact hb, by omega, by omega, hq, by omega⟩) (fun c4 => ?_)
      have t3 := n2 (s + 3) (by omega) (by omega)
      have e3 : tx (fi 60 126) (ai 131) (s + 3) = ai 131 (s + 3) := tx_i (by omega) (by omega)
      refine am_W.br rfl rfl (by and_intros <;> first | trivial | exact okI rfl rfl rfl | (refine okrI rfl rfl rfl rfl ?_ ?_ <;> (first | omega | (simp only [HS, FRS, CCS, am_R, MKS, MKU] at *; omega))) | (refine okaI rfl rfl rfl rfl ?_ ?_ <;> (first | omega | (simp only [HS, FRS, CCS, am_R, MKS, MKU] at *; omega))) | (first | omega | (simp only [HS, FRS, CCS, am_R, MKS, MKU] at *; omega))) (fun c5 => hn (fun w => c5 (by simp only [HS, FRS, MKS, MKU]; rw [← e3]; exact w.2.2.2.2 (by omega)))) (fun c5 => ?_)
      simp only [HS, FRS, MKS, MKU] at c5
      exact hy ⟨by rw [← hN]; exact hb, by omega, by omega, hq, fun _ => by omega⟩
    refine am_W.br rfl rfl (by and_intros <;> first | trivial | exact okI rfl rfl rfl | (refine okrI rfl rfl rfl rfl ?_ ?_ <;> (first | omega | (simp only [HS, FRS, CCS, am_R, MKS, MKU] at *; omega))) | (refine okaI rfl rfl rfl rfl ?_ ?_ <;> (first | omega | (simp only [HS, FRS, CCS, am_R, MKS, MKU] at *; omega))) | (first | omega | (simp only [HS, FRS, CCS, am_R, MKS, MKU] at *; omega))) (fun c4 => hlast (by omega)) (fun c4 => ?_)
    have t2 := n2 (s + 2) (by omega) (by omega)
    have e2 : tx (fi 60 126) (ai 131) (s + 2) = ai 131 (s + 2) := tx_i (by omega) (by omega)
    refine am_W.br rfl rfl (by and_intros <;> first | trivial | exact okI rfl rfl rfl | (refine okrI rfl rfl rfl rfl ?_ ?_ <;> (first | omega | (simp only [HS, FRS, CCS, am_R, MKS, MKU] at *; omega))) | (refine okaI rfl rfl rfl rfl ?_ ?_ <;> (first | omega | (simp only [HS, FRS, CCS, am_R, MKS, MKU] at *; omega))) | (first | omega | (simp only [HS, FRS, CCS, am_R, MKS, MKU] at *; omega))) (fun c5 => hn (fun w => c5 (by simp only [HS, FRS, MKS, MKU]; rw [← e2]; exact w.2.2.2.1 (by omega)))) (fun c5 => ?_)
    simp only [HS, FRS, MKS, MKU] at c5
    exact hlast (fun _ => by omega)
  obtain ⟨a1, a2, a3, a4⟩ := ha
  refine am_W.br rfl rfl (by and_intros <;> first | trivial | exact okI rfl rfl rfl | (refine okrI rfl rfl rfl rfl ?_ ?_ <;> (first | omega | (simp only [HS, FRS, CCS, am_R, MKS, MKU] at *; omega))) | (refine okaI rfl rfl rfl rfl ?_ ?_ <;> (first | omega | (simp only [HS, FRS, CCS, am_R, MKS, MKU] at *; omega))) | (first | omega | (simp only [HS, FRS, CCS, am_R, MKS, MKU] at *; omega))) (fun c1 => ?_) (fun c1 => ?_)
  · refine am_W.br rfl rfl (by and_intros <;> first | trivial | exact okI rfl rfl rfl | (refine okrI rfl rfl rfl rfl ?_ ?_ <;> (first | omega | (simp only [HS, FRS, CCS, am_R, MKS, MKU] at *; omega))) | (refine okaI rfl rfl rfl rfl ?_ ?_ <;> (first | omega | (simp only [HS, FRS, CCS, am_R, MKS, MKU] at *; omega))) | (first | omega | (simp only [HS, FRS, CCS, am_R, MKS, MKU] at *; omega))) (fun c2 => ?_) (fun c2 => ?_)
    · exact am_W.gp 21 rfl (by and_intros <;> first | trivial | exact okI rfl rfl rfl | (refine okrI rfl rfl rfl rfl ?_ ?_ <;> (first | omega | (simp only [HS, FRS, CCS, am_R, MKS, MKU] at *; omega))) | (refine okaI rfl rfl rfl rfl ?_ ?_ <;> (first | omega | (simp only [HS, FRS, CCS, am_R, MKS, MKU] at *; omega))) | (first | omega | (simp only [HS, FRS, CCS, am_R, MKS, MKU] at *; omega))) (hgo 2 (by rw [if_neg (by omega), if_neg (by omega)]))
    · exact am_W.gp 21 rfl (by and_intros <;> first | trivial | exact okI rfl rfl rfl | (refine okrI rfl rfl rfl rfl ?_ ?_ <;> (first | omega | (simp only [HS, FRS, CCS, am_R, MKS, MKU] at *; omega))) | (refine okaI rfl rfl rfl rfl ?_ ?_ <;> (first | omega | (simp only [HS, FRS, CCS, am_R, MKS, MKU] at *; omega))) | (first | omega | (simp only [HS, FRS, CCS, am_R, MKS, MKU] at *; omega))) (hgo 3 (by rw [if_neg (by omega), if_pos (by omega)]))
  · exact am_W.gp 21 rfl (by and_intros <;> first | trivial | exact okI rfl rfl rfl | (refine okrI rfl rfl rfl rfl ?_ ?_ <;> (first | omega | (simp only [HS, FRS, CCS, am_R, MKS, MKU] at *; omega))) | (refine okaI rfl rfl rfl rfl ?_ ?_ <;> (first | omega | (simp only [HS, FRS, CCS, am_R, MKS, MKU] at *; omega))) | (first | omega | (simp only [HS, FRS, CCS, am_R, MKS, MKU] at *; omega))) (hgo 4 (by rw [if_pos (by omega)]))

set_option maxHeartbeats 400000 in
set_option maxRecDepth 100000 in
theorem l_Mo_skip (d L B1 B2 : Nat) (fi : Nat → Nat → Int) (ai aj : Nat → Int → Int) (k0 v0 p0 : Int) (Q : Option am_V → am_H → Prop) (hI : txI (fi 60 126) (ai 131)) : ∀ (k : Nat) (b : Int) (h : am_H), fi 60 126 - b ≤ (k : Int) → 0 ≤ b → b ≤ fi 60 126 → h = HH L B1 B2 (mk fi (k0, v0, p0, b)) ai aj → am_W (am_ev am_prog d) T_Mo_next Q (52, [some (.inr (.inr 126)), none, none], [], HH L B1 B2 (mk fi (k0, v0, p0, skp (tx (fi 60 126) (ai 131)) k b)) ai aj) → am_W (am_ev am_prog d) T_Mo_next Q (0, [some (.inr (.inr 126)), none, none], [], h)
  | 0, b, h, hk, h0, h1, hh, w => by
    subst hh
    obtain ⟨n0, n1, n2⟩ := id hI
    exact am_W.br rfl rfl (by and_intros <;> first | trivial | exact okI rfl rfl rfl | (refine okrI rfl rfl rfl rfl ?_ ?_ <;> (first | omega | (simp only [HS, FRS, CCS, am_R, MKS, MKU] at *; omega))) | (refine okaI rfl rfl rfl rfl ?_ ?_ <;> (first | omega | (simp only [HS, FRS, CCS, am_R, MKS, MKU] at *; omega))) | (first | omega | (simp only [HS, FRS, CCS, am_R, MKS, MKU] at *; omega))) (fun c1 => w) (fun c1 => absurd c1 (by (first | omega | (simp only [HS, FRS, CCS, am_R, MKS, MKU] at *; omega))))
  | k + 1, b, h, hk, h0, h1, hh, w => by
    subst hh
    obtain ⟨n0, n1, n2⟩ := id hI
    unfold skp at w
    refine am_W.br rfl rfl (by and_intros <;> first | trivial | exact okI rfl rfl rfl | (refine okrI rfl rfl rfl rfl ?_ ?_ <;> (first | omega | (simp only [HS, FRS, CCS, am_R, MKS, MKU] at *; omega))) | (refine okaI rfl rfl rfl rfl ?_ ?_ <;> (first | omega | (simp only [HS, FRS, CCS, am_R, MKS, MKU] at *; omega))) | (first | omega | (simp only [HS, FRS, CCS, am_R, MKS, MKU] at *; omega))) (fun c1 => ?_) (fun c1 => ?_)
    · simp only [HS, FRS, MKS, MKU] at c1
      rw [tx_o c1, if_neg (by omega)] at w
      exact w
    · simp only [HS, FRS, MKS, MKU] at c1
      have hb := n2 b (by omega) (by omega)
      rw [tx_i h0 (by omega)] at w
      refine am_W.br rfl rfl (by and_intros <;> first | trivial | exact okI rfl rfl rfl | (refine okrI rfl rfl rfl rfl ?_ ?_ <;> (first | omega | (simp only [HS, FRS, CCS, am_R, MKS, MKU] at *; omega))) | (refine okaI rfl rfl rfl rfl ?_ ?_ <;> (first | omega | (simp only [HS, FRS, CCS, am_R, MKS, MKU] at *; omega))) | (first | omega | (simp only [HS, FRS, CCS, am_R, MKS, MKU] at *; omega))) (fun c2 => ?_) (fun c2 => ?_)
      · simp only [HS, FRS, MKS, MKU] at c2
        rw [if_pos (Or.inl c2)] at w
        refine am_W.gp 0 rfl (by and_intros <;> first | trivial | exact okI rfl rfl rfl | (refine okrI rfl rfl rfl rfl ?_ ?_ <;> (first | omega | (simp only [HS, FRS, CCS, am_R, MKS, MKU] at *; omega))) | (refine okaI rfl rfl rfl rfl ?_ ?_ <;> (first | omega | (simp only [HS, FRS, CCS, am_R, MKS, MKU] at *; omega))) | (first | omega | (simp only [HS, FRS, CCS, am_R, MKS, MKU] at *; omega))) (l_Mo_skip d L B1 B2 fi ai aj k0 v0 p0 Q hI k (b + 1) _ (by omega) (by omega) (by omega) ?_ w)
        simp only [HS, FRS, MKS, MKU]
      · simp only [HS, FRS, MKS, MKU] at c2
        refine am_W.br rfl rfl (by and_intros <;> first | trivial | exact okI rfl rfl rfl | (refine okrI rfl rfl rfl rfl ?_ ?_ <;> (first | omega | (simp only [HS, FRS, CCS, am_R, MKS, MKU] at *; omega))) | (refine okaI rfl rfl rfl rfl ?_ ?_ <;> (first | omega | (simp only [HS, FRS, CCS, am_R, MKS, MKU] at *; omega))) | (first | omega | (simp only [HS, FRS, CCS, am_R, MKS, MKU] at *; omega))) (fun c3 => ?_) (fun c3 => ?_)
        · simp only [HS, FRS, MKS, MKU] at c3
          rw [if_neg (by omega)] at w
          exact w
        · simp only [HS, FRS, MKS, MKU] at c3
          rw [if_pos (by omega)] at w
          refine am_W.gp 0 rfl (by and_intros <;> first | trivial | exact okI rfl rfl rfl | (refine okrI rfl rfl rfl rfl ?_ ?_ <;> (first | omega | (simp only [HS, FRS, CCS, am_R, MKS, MKU] at *; omega))) | (refine okaI rfl rfl rfl rfl ?_ ?_ <;> (first | omega | (simp only [HS, FRS, CCS, am_R, MKS, MKU] at *; omega))) | (first | omega | (simp only [HS, FRS, CCS, am_R, MKS, MKU] at *; omega))) (l_Mo_skip d L B1 B2 fi ai aj k0 v0 p0 Q hI k (b + 1) _ (by omega) (by omega) (by omega) ?_ w)
          simp only [HS, FRS, MKS, MKU]
set_option maxHeartbeats 400000 in
set_option maxRecDepth 100000 in
theorem l_Mo_word (d L B1 B2 : Nat) (fi : Nat → Nat → Int) (ai aj : Nat → Int → Int) (k0 v0 p0 c : Int) (Q : Option am_V → am_H → Prop) (hI : txI (fi 60 126) (ai 131)) : ∀ (k : Nat) (b : Int) (h : am_H), fi 60 126 - b ≤ (k : Int) → 0 ≤ b → b ≤ fi 60 126 → h = HH L B1 B2 (mk fi (k0, v0, p0, b)) ai aj → am_W (am_ev am_prog (d + 1)) T_Mo_next Q (136, [some (.inr (.inr 126)), some (.inl c), none], [], HH L B1 B2 (mk fi (k0, v0, p0, wde (tx (fi 60 126) (ai 131)) k b)) ai aj) → am_W (am_ev am_prog (d + 1)) T_Mo_next Q (109, [some (.inr (.inr 126)), some (.inl c), none], [], h) := by
  have hn1 := hI.2.1
  intro k
  induction k with
  | zero =>
    intro b h hk h0 h1 hh w
    subst hh
    refine am_W.cv 10 m_Mo_charAt rfl rfl rfl rfl (by and_intros <;> first | trivial | exact okI rfl rfl rfl | (refine okrI rfl rfl rfl rfl ?_ ?_ <;> (first | omega | (simp only [HS, FRS, CCS, am_R, MKS, MKU] at *; omega))) | (refine okaI rfl rfl rfl rfl ?_ ?_ <;> (first | omega | (simp only [HS, FRS, CCS, am_R, MKS, MKU] at *; omega))) | (first | omega | (simp only [HS, FRS, CCS, am_R, MKS, MKU] at *; omega))) (c_Mo_charAt d L B1 B2 (mk fi (k0, v0, p0, b)) ai aj b hI h0 (by and_intros <;> first | trivial | exact okI rfl rfl rfl | (refine okrI rfl rfl rfl rfl ?_ ?_ <;> (first | omega | (simp only [HS, FRS, CCS, am_R, MKS, MKU] at *; omega))) | (refine okaI rfl rfl rfl rfl ?_ ?_ <;> (first | omega | (simp only [HS, FRS, CCS, am_R, MKS, MKU] at *; omega))) | (first | omega | (simp only [HS, FRS, CCS, am_R, MKS, MKU] at *; omega)))) ?_
    rintro r1 h1 ⟨rfl, rfl⟩
    refine am_W.cs rfl rfl rfl (by and_intros <;> first | trivial | exact okI rfl rfl rfl | (refine okrI rfl rfl rfl rfl ?_ ?_ <;> (first | omega | (simp only [HS, FRS, CCS, am_R, MKS, MKU] at *; omega))) | (refine okaI rfl rfl rfl rfl ?_ ?_ <;> (first | omega | (simp only [HS, FRS, CCS, am_R, MKS, MKU] at *; omega))) | (first | omega | (simp only [HS, FRS, CCS, am_R, MKS, MKU] at *; omega))) (c_Mo_isSmall d _ _ (ch_R hI _)) ?_
    rintro r1 h1 ⟨rfl, rfl⟩
    have hq : ¬ ltr (ch (tx (mk fi (k0, v0, p0, b) 60 126) (ai 131)) b) := by
      rw [ch_l, MKS.1, tx_o (by omega)]
      omega
    rw [if_neg hq]
    exact am_W.br rfl rfl (by and_intros <;> first | trivial | exact okI rfl rfl rfl | (refine okrI rfl rfl rfl rfl ?_ ?_ <;> (first | omega | (simp only [HS, FRS, CCS, am_R, MKS, MKU] at *; omega))) | (refine okaI rfl rfl rfl rfl ?_ ?_ <;> (first | omega | (simp only [HS, FRS, CCS, am_R, MKS, MKU] at *; omega))) | (first | omega | (simp only [HS, FRS, CCS, am_R, MKS, MKU] at *; omega))) (fun c1 => w) (fun c1 => absurd rfl c1)
  | succ k ih =>
    intro b h hk h0 h1 hh w
    subst hh
    refine am_W.cv 10 m_Mo_charAt rfl rfl rfl rfl (by and_intros <;> first | trivial | exact okI rfl rfl rfl | (refine okrI rfl rfl rfl rfl ?_ ?_ <;> (first | omega | (simp only [HS, FRS, CCS, am_R, MKS, MKU] at *; omega))) | (refine okaI rfl rfl rfl rfl ?_ ?_ <;> (first | omega | (simp only [HS, FRS, CCS, am_R, MKS, MKU] at *; omega))) | (first | omega | (simp only [HS, FRS, CCS, am_R, MKS, MKU] at *; omega))) (c_Mo_charAt d L B1 B2 (mk fi (k0, v0, p0, b)) ai aj b hI h0 (by and_intros <;> first | trivial | exact okI rfl rfl rfl | (refine okrI rfl rfl rfl rfl ?_ ?_ <;> (first | omega | (simp only [HS, FRS, CCS, am_R, MKS, MKU] at *; omega))) | (refine okaI rfl rfl rfl rfl ?_ ?_ <;> (first | omega | (simp only [HS, FRS, CCS, am_R, MKS, MKU] at *; omega))) | (first | omega | (simp only [HS, FRS, CCS, am_R, MKS, MKU] at *; omega)))) ?_
    rintro r1 h1 ⟨rfl, rfl⟩
    refine am_W.cs rfl rfl rfl (by and_intros <;> first | trivial | exact okI rfl rfl rfl | (refine okrI rfl rfl rfl rfl ?_ ?_ <;> (first | omega | (simp only [HS, FRS, CCS, am_R, MKS, MKU] at *; omega))) | (refine okaI rfl rfl rfl rfl ?_ ?_ <;> (first | omega | (simp only [HS, FRS, CCS, am_R, MKS, MKU] at *; omega))) | (first | omega | (simp only [HS, FRS, CCS, am_R, MKS, MKU] at *; omega))) (c_Mo_isSmall d _ _ (ch_R hI _)) ?_
    rintro r1 h1 ⟨rfl, rfl⟩
    rw [MKS.1]
    by_cases hq : ltr (tx (fi 60 126) (ai 131) b)
    · rw [if_pos (ch_l.mpr hq)]
      rw [wde_s k hq] at w
      have := (tx_lt (T := ai 131) (p := b) (n := fi 60 126) (by omega)).2
      refine am_W.br rfl rfl (by and_intros <;> first | trivial | exact okI rfl rfl rfl | (refine okrI rfl rfl rfl rfl ?_ ?_ <;> (first | omega | (simp only [HS, FRS, CCS, am_R, MKS, MKU] at *; omega))) | (refine okaI rfl rfl rfl rfl ?_ ?_ <;> (first | omega | (simp only [HS, FRS, CCS, am_R, MKS, MKU] at *; omega))) | (first | omega | (simp only [HS, FRS, CCS, am_R, MKS, MKU] at *; omega))) (fun c1 => absurd c1 (by decide)) (fun c1 => ?_)
      refine am_W.gp 109 rfl (by and_intros <;> first | trivial | exact okI rfl rfl rfl | (refine okrI rfl rfl rfl rfl ?_ ?_ <;> (first | omega | (simp only [HS, FRS, CCS, am_R, MKS, MKU] at *; omega))) | (refine okaI rfl rfl rfl rfl ?_ ?_ <;> (first | omega | (simp only [HS, FRS, CCS, am_R, MKS, MKU] at *; omega))) | (first | omega | (simp only [HS, FRS, CCS, am_R, MKS, MKU] at *; omega))) (ih (b + 1) _ (by omega) (by omega) (by omega) ?_ w)
      simp only [HS, FRS, MKS, MKU]
    · rw [if_neg (fun q => hq (ch_l.mp q))]
      rw [wde_z k hq] at w
      exact am_W.br rfl rfl (by and_intros <;> first | trivial | exact okI rfl rfl rfl | (refine okrI rfl rfl rfl rfl ?_ ?_ <;> (first | omega | (simp only [HS, FRS, CCS, am_R, MKS, MKU] at *; omega))) | (refine okaI rfl rfl rfl rfl ?_ ?_ <;> (first | omega | (simp only [HS, FRS, CCS, am_R, MKS, MKU] at *; omega))) | (first | omega | (simp only [HS, FRS, CCS, am_R, MKS, MKU] at *; omega))) (fun c1 => w) (fun c1 => absurd rfl c1)
set_option maxHeartbeats 400000 in
set_option maxRecDepth 100000 in
theorem l_Mo_dig (d L B1 B2 : Nat) (fi : Nat → Nat → Int) (ai aj : Nat → Int → Int) (k0 p0 c : Int) (Q : Option am_V → am_H → Prop) (hI : txI (fi 60 126) (ai 131)) (hp0 : 0 ≤ p0 ∧ p0 ≤ 500) : ∀ (k : Nat) (b v : Int) (h : am_H), b - p0 + (k : Int) = 4 → 0 ≤ b → b ≤ fi 60 126 → h = HH L B1 B2 (mk fi (k0, v, p0, b)) ai aj → am_W (am_ev am_prog (d + 1)) T_Mo_next Q (380, [some (.inr (.inr 126)), some (.inl c), none], [], HH L B1 B2 (mk fi (k0, (dge (tx (fi 60 126) (ai 131)) k b v).2, p0, (dge (tx (fi 60 126) (ai 131)) k b v).1)) ai aj) → am_W (am_ev am_prog (d + 1)) T_Mo_next Q (316, [some (.inr (.inr 126)), some (.inl c), none], [], h) := by
  have hn1 := hI.2.1
  intro k
  induction k with
  | zero =>
    intro b v h hk h0 h1 hh w
    subst hh
    exact am_W.br rfl rfl (by and_intros <;> first | trivial | exact okI rfl rfl rfl | (refine okrI rfl rfl rfl rfl ?_ ?_ <;> (first | omega | (simp only [HS, FRS, CCS, am_R, MKS, MKU] at *; omega))) | (refine okaI rfl rfl rfl rfl ?_ ?_ <;> (first | omega | (simp only [HS, FRS, CCS, am_R, MKS, MKU] at *; omega))) | (first | omega | (simp only [HS, FRS, CCS, am_R, MKS, MKU] at *; omega))) (fun c1 => w) (fun c1 => absurd c1 (by (first | omega | (simp only [HS, FRS, CCS, am_R, MKS, MKU] at *; omega))))
  | succ k ih =>
    intro b v h hk h0 h1 hh w
    subst hh
    refine am_W.br rfl rfl (by and_intros <;> first | trivial | exact okI rfl rfl rfl | (refine okrI rfl rfl rfl rfl ?_ ?_ <;> (first | omega | (simp only [HS, FRS, CCS, am_R, MKS, MKU] at *; omega))) | (refine okaI rfl rfl rfl rfl ?_ ?_ <;> (first | omega | (simp only [HS, FRS, CCS, am_R, MKS, MKU] at *; omega))) | (first | omega | (simp only [HS, FRS, CCS, am_R, MKS, MKU] at *; omega))) (fun c1 => absurd c1 (by (first | omega | (simp only [HS, FRS, CCS, am_R, MKS, MKU] at *; omega)))) (fun c1 => ?_)
    refine am_W.cv 10 m_Mo_charAt rfl rfl rfl rfl (by and_intros <;> first | trivial | exact okI rfl rfl rfl | (refine okrI rfl rfl rfl rfl ?_ ?_ <;> (first | omega | (simp only [HS, FRS, CCS, am_R, MKS, MKU] at *; omega))) | (refine okaI rfl rfl rfl rfl ?_ ?_ <;> (first | omega | (simp only [HS, FRS, CCS, am_R, MKS, MKU] at *; omega))) | (first | omega | (simp only [HS, FRS, CCS, am_R, MKS, MKU] at *; omega))) (c_Mo_charAt d L B1 B2 (mk fi (k0, v, p0, b)) ai aj b hI h0 (by and_intros <;> first | trivial | exact okI rfl rfl rfl | (refine okrI rfl rfl rfl rfl ?_ ?_ <;> (first | omega | (simp only [HS, FRS, CCS, am_R, MKS, MKU] at *; omega))) | (refine okaI rfl rfl rfl rfl ?_ ?_ <;> (first | omega | (simp only [HS, FRS, CCS, am_R, MKS, MKU] at *; omega))) | (first | omega | (simp only [HS, FRS, CCS, am_R, MKS, MKU] at *; omega)))) ?_
    rintro r1 h1 ⟨rfl, rfl⟩
    refine am_W.cs rfl rfl rfl (by and_intros <;> first | trivial | exact okI rfl rfl rfl | (refine okrI rfl rfl rfl rfl ?_ ?_ <;> (first | omega | (simp only [HS, FRS, CCS, am_R, MKS, MKU] at *; omega))) | (refine okaI rfl rfl rfl rfl ?_ ?_ <;> (first | omega | (simp only [HS, FRS, CCS, am_R, MKS, MKU] at *; omega))) | (first | omega | (simp only [HS, FRS, CCS, am_R, MKS, MKU] at *; omega))) (c_Mo_isDigit d _ _ (ch_R hI _)) ?_
    rintro r1 h1 ⟨rfl, rfl⟩
    rw [MKS.1]
    unfold dge at w
    by_cases hq : dgt (tx (fi 60 126) (ai 131) b)
    · rw [if_pos (ch_d.mpr hq)]
      rw [if_pos hq] at w
      have hb := (tx_lt (T := ai 131) (p := b) (n := fi 60 126) (by omega)).2
      rw [tx_i h0 hb] at w
      refine am_W.br rfl rfl (by and_intros <;> first | trivial | exact okI rfl rfl rfl | (refine okrI rfl rfl rfl rfl ?_ ?_ <;> (first | omega | (simp only [HS, FRS, CCS, am_R, MKS, MKU] at *; omega))) | (refine okaI rfl rfl rfl rfl ?_ ?_ <;> (first | omega | (simp only [HS, FRS, CCS, am_R, MKS, MKU] at *; omega))) | (first | omega | (simp only [HS, FRS, CCS, am_R, MKS, MKU] at *; omega))) (fun c1 => absurd c1 (by decide)) (fun c1 => ?_)
      refine am_W.gp 316 rfl (by and_intros <;> first | trivial | exact okI rfl rfl rfl | (refine okrI rfl rfl rfl rfl ?_ ?_ <;> (first | omega | (simp only [HS, FRS, CCS, am_R, MKS, MKU] at *; omega))) | (refine okaI rfl rfl rfl rfl ?_ ?_ <;> (first | omega | (simp only [HS, FRS, CCS, am_R, MKS, MKU] at *; omega))) | (first | omega | (simp only [HS, FRS, CCS, am_R, MKS, MKU] at *; omega))) (ih (b + 1) _ _ (by omega) (by omega) (by omega) ?_ w)
      simp only [HS, FRS, MKS, MKU]
    · rw [if_neg (fun q => hq (ch_d.mp q))]
      rw [if_neg hq] at w
      exact am_W.br rfl rfl (by and_intros <;> first | trivial | exact okI rfl rfl rfl | (refine okrI rfl rfl rfl rfl ?_ ?_ <;> (first | omega | (simp only [HS, FRS, CCS, am_R, MKS, MKU] at *; omega))) | (refine okaI rfl rfl rfl rfl ?_ ?_ <;> (first | omega | (simp only [HS, FRS, CCS, am_R, MKS, MKU] at *; omega))) | (first | omega | (simp only [HS, FRS, CCS, am_R, MKS, MKU] at *; omega))) (fun c1 => w) (fun c1 => absurd rfl c1)
def mnQ (L B1 B2 : Nat) (fi : Nat → Nat → Int) (ai aj : Nat → Int → Int) (τ : Tk) : Option am_V → am_H → Prop := fun w h' => w = none ∧ ∃ tok val, h' = HH L B1 B2 (mk fi (tok, val, τ.1, τ.2.2.2)) ai aj ∧ TR τ.2.1 τ.2.2.1 tok val
set_option maxHeartbeats 400000 in
set_option maxRecDepth 100000 in
theorem c_Mo_next (d L B1 B2 : Nat) (fi : Nat → Nat → Int) (ai aj : Nat → Int → Int) (k0 v0 p0 b v : Int) (hI : txI (fi 60 126) (ai 131)) (h0 : 0 ≤ b) (h1 : b ≤ fi 60 126) : am_M am_prog (d + 2) m_Mo_next [.inr (.inr 126)] (HH L B1 B2 (mk fi (k0, v0, p0, b)) ai aj) (mnQ L B1 B2 fi ai aj (lx (tx (fi 60 126) (ai 131)) b v)) := by
  have hn1 := hI.2.1
  refine am_W.of rfl rfl ?_
  refine l_Mo_skip (d + 1) L B1 B2 fi ai aj k0 v0 p0 _ hI 500 b _ (by omega) h0 h1 rfl ?_
  have hs0 := skp_in (n := fi 60 126) (T := ai 131) 500 b h0 h1
  unfold lx
  generalize skp (tx (fi 60 126) (ai 131)) 500 b = s at *
  have hs : 0 ≤ s ∧ s ≤ fi 60 126 := by omega
  have ht := tx_R hI s
  refine am_W.br rfl rfl (by and_intros <;> first | trivial | exact okI rfl rfl rfl | (refine okrI rfl rfl rfl rfl ?_ ?_ <;> (first | omega | (simp only [HS, FRS, CCS, am_R, MKS, MKU] at *; omega))) | (refine okaI rfl rfl rfl rfl ?_ ?_ <;> (first | omega | (simp only [HS, FRS, CCS, am_R, MKS, MKU] at *; omega))) | (first | omega | (simp only [HS, FRS, CCS, am_R, MKS, MKU] at *; omega))) (fun c1 => ?_) (fun c1 => ?_)
  · simp only [HS, FRS, MKS, MKU] at c1
    have hsn : s < fi 60 126 := by omega
    have hts : tx (fi 60 126) (ai 131) s = ai 131 s := tx_i hs.1 hsn
    have hwd := wde_in (n := fi 60 126) (T := ai 131) 501 s hs.1 hs.2
    have ht2 := hI.2.2 s hs.1 hsn
    have eh : am_ufi (am_ufi (am_ufi (HH L B1 B2 (mk fi (k0, v0, p0, s)) ai aj) 89 126 (am_fi (HH L B1 B2 (mk fi (k0, v0, p0, s)) ai aj) 90 126)) 88 126 (-1)) 90 126 (am_fi (am_ufi (am_ufi (HH L B1 B2 (mk fi (k0, v0, p0, s)) ai aj) 89 126 (am_fi (HH L B1 B2 (mk fi (k0, v0, p0, s)) ai aj) 90 126)) 88 126 (-1)) 90 126 + 1) = HH L B1 B2 (mk fi (k0, -1, s, s + 1)) ai aj := by simp only [HS, MKS, MKU]
    have ec : am_ai (am_ufi (am_ufi (HH L B1 B2 (mk fi (k0, v0, p0, s)) ai aj) 89 126 (am_fi (HH L B1 B2 (mk fi (k0, v0, p0, s)) ai aj) 90 126)) 88 126 (-1)) (am_fr (am_ufi (am_ufi (HH L B1 B2 (mk fi (k0, v0, p0, s)) ai aj) 89 126 (am_fi (HH L B1 B2 (mk fi (k0, v0, p0, s)) ai aj) 90 126)) 88 126 (-1)) 59 126) (am_fi (am_ufi (am_ufi (HH L B1 B2 (mk fi (k0, v0, p0, s)) ai aj) 89 126 (am_fi (HH L B1 B2 (mk fi (k0, v0, p0, s)) ai aj) 90 126)) 88 126 (-1)) 90 126) = ai 131 s := by simp only [HS, MKS, MKU, FRS]
    refine am_W.cs rfl rfl rfl ?_ (by rw [ec, eh]; exact c_Mo_isSmall d _ _ ⟨by omega, by omega⟩) ?_
    · simp only [HS, MKS, MKU, FRS]
      exact (by and_intros <;> first | trivial | exact okI rfl rfl rfl | (refine okrI rfl rfl rfl rfl ?_ ?_ <;> (first | omega | (simp only [HS, FRS, CCS, am_R, MKS, MKU] at *; omega))) | (refine okaI rfl rfl rfl rfl ?_ ?_ <;> (first | omega | (simp only [HS, FRS, CCS, am_R, MKS, MKU] at *; omega))) | (first | omega | (simp only [HS, FRS, CCS, am_R, MKS, MKU] at *; omega)))
    rintro r1 h1 ⟨rfl, rfl⟩
    rw [ec]
    unfold lxs
    by_cases hq : ltr (ai 131 s)
    · rw [if_pos hq, if_pos (by rw [hts]; exact hq)]
      refine am_W.br rfl rfl (by and_intros <;> first | trivial | exact okI rfl rfl rfl | (refine okrI rfl rfl rfl rfl ?_ ?_ <;> (first | omega | (simp only [HS, FRS, CCS, am_R, MKS, MKU] at *; omega))) | (refine okaI rfl rfl rfl rfl ?_ ?_ <;> (first | omega | (simp only [HS, FRS, CCS, am_R, MKS, MKU] at *; omega))) | (first | omega | (simp only [HS, FRS, CCS, am_R, MKS, MKU] at *; omega))) (fun c2 => absurd c2 (by decide)) (fun c2 => ?_)
      refine l_Mo_word d L B1 B2 fi ai aj k0 (-1) s _ _ hI 500 (s + 1) _ (by omega) (by omega) (by omega) rfl ?_
      rw [← wde_s (t := tx (fi 60 126) (ai 131)) 500 (by rw [hts]; exact hq)]
      have hfin : ∀ val : Int, ((wat (tx (fi 60 126) (ai 131)) s (wde (tx (fi 60 126) (ai 131)) 501 s) 109 97 112 0 ∧ val = 0) ∨ (¬ wat (tx (fi 60 126) (ai 131)) s (wde (tx (fi 60 126) (ai 131)) 501 s) 109 97 112 0 ∧ ((wat (tx (fi 60 126) (ai 131)) s (wde (tx (fi 60 126) (ai 131)) 501 s) 105 102 0 0 ∧ val = 1) ∨ (¬ wat (tx (fi 60 126) (ai 131)) s (wde (tx (fi 60 126) (ai 131)) 501 s) 105 102 0 0 ∧ ((wat (tx (fi 60 126) (ai 131)) s (wde (tx (fi 60 126) (ai 131)) 501 s) 105 110 0 0 ∧ val = 2) ∨ (¬ wat (tx (fi 60 126) (ai 131)) s (wde (tx (fi 60 126) (ai 131)) 501 s) 105 110 0 0 ∧ ((wat (tx (fi 60 126) (ai 131)) s (wde (tx (fi 60 126) (ai 131)) 501 s) 111 102 0 0 ∧ val = 3) ∨ (¬ wat (tx (fi 60 126) (ai 131)) s (wde (tx (fi 60 126) (ai 131)) 501 s) 111 102 0 0 ∧ ((wat (tx (fi 60 126) (ai 131)) s (wde (tx (fi 60 126) (ai 131)) 501 s) 98 121 0 0 ∧ val = 4) ∨ (¬ wat (tx (fi 60 126) (ai 131)) s (wde (tx (fi 60 126) (ai 131)) 501 s) 98 121 0 0 ∧ ((wat (tx (fi 60 126) (ai 131)) s (wde (tx (fi 60 126) (ai 131)) 501 s) 110 117 108 108 ∧ val = 5) ∨ (¬ wat (tx (fi 60 126) (ai 131)) s (wde (tx (fi 60 126) (ai 131)) 501 s) 110 117 108 108 ∧ (val = -1))))))))))))) → am_W (am_ev am_prog (d + 1)) T_Mo_next (mnQ L B1 B2 fi ai aj (s, (if 4 < wde (tx (fi 60 126) (ai 131)) 501 s - s then 0 else wdk (tx (fi 60 126) (ai 131)) 501 s 0), v, wde (tx (fi 60 126) (ai 131)) 501 s)) (278, [some (.inr (.inr 126)), some (.inl (ai 131 s)), some (.inl s)], [.inl val, .inr (.inr 126)], HH L B1 B2 (mk fi (k0, -1, s, wde (tx (fi 60 126) (ai 131)) 501 s)) ai aj) := by
        intro val hv
        have hT := TR_word (v := v) (by rw [hts]; exact hq) hv
        have hvr : -1 ≤ val ∧ val ≤ 9999 := by
          have hT := hT
          unfold TR at hT
          omega
        refine am_W.br rfl rfl (by and_intros <;> first | trivial | exact okI rfl rfl rfl | (refine okrI rfl rfl rfl rfl ?_ ?_ <;> (first | omega | (simp only [HS, FRS, CCS, am_R, MKS, MKU] at *; omega))) | (refine okaI rfl rfl rfl rfl ?_ ?_ <;> (first | omega | (simp only [HS, FRS, CCS, am_R, MKS, MKU] at *; omega))) | (first | omega | (simp only [HS, FRS, CCS, am_R, MKS, MKU] at *; omega))) (fun c3 => ?_) (fun c3 => ?_)
        · simp only [HS, MKS, MKU, FRS] at c3
          rw [show (if val = -1 then (5 : Int) else 1) = 1 from if_neg c3] at hT
          refine am_W.rt rfl rfl (by and_intros <;> first | trivial | exact okI rfl rfl rfl | (refine okrI rfl rfl rfl rfl ?_ ?_ <;> (first | omega | (simp only [HS, FRS, CCS, am_R, MKS, MKU] at *; omega))) | (refine okaI rfl rfl rfl rfl ?_ ?_ <;> (first | omega | (simp only [HS, FRS, CCS, am_R, MKS, MKU] at *; omega))) | (first | omega | (simp only [HS, FRS, CCS, am_R, MKS, MKU] at *; omega))) ⟨rfl, 1, val, ?_, hT⟩
          simp only [HS, MKS, MKU]
        · simp only [HS, MKS, MKU, FRS] at c3
          rw [show (if val = -1 then (5 : Int) else 1) = 5 from if_pos (by omega)] at hT
          refine am_W.rt rfl rfl (by and_intros <;> first | trivial | exact okI rfl rfl rfl | (refine okrI rfl rfl rfl rfl ?_ ?_ <;> (first | omega | (simp only [HS, FRS, CCS, am_R, MKS, MKU] at *; omega))) | (refine okaI rfl rfl rfl rfl ?_ ?_ <;> (first | omega | (simp only [HS, FRS, CCS, am_R, MKS, MKU] at *; omega))) | (first | omega | (simp only [HS, FRS, CCS, am_R, MKS, MKU] at *; omega))) ⟨rfl, 5, val, ?_, hT⟩
          simp only [HS, MKS, MKU]
      refine am_W.cv 10 m_Mo_isAt rfl rfl rfl rfl (by and_intros <;> first | trivial | exact okI rfl rfl rfl | (refine okrI rfl rfl rfl rfl ?_ ?_ <;> (first | omega | (simp only [HS, FRS, CCS, am_R, MKS, MKU] at *; omega))) | (refine okaI rfl rfl rfl rfl ?_ ?_ <;> (first | omega | (simp only [HS, FRS, CCS, am_R, MKS, MKU] at *; omega))) | (first | omega | (simp only [HS, FRS, CCS, am_R, MKS, MKU] at *; omega))) (c_Mo_isAt d L B1 B2 (mk fi (k0, -1, s, wde (tx (fi 60 126) (ai 131)) 501 s)) ai aj s _ 109 97 112 0 hI hs.1 hwd.1 hwd.2 (by and_intros <;> first | trivial | exact okI rfl rfl rfl | (refine okrI rfl rfl rfl rfl ?_ ?_ <;> (first | omega | (simp only [HS, FRS, CCS, am_R, MKS, MKU] at *; omega))) | (refine okaI rfl rfl rfl rfl ?_ ?_ <;> (first | omega | (simp only [HS, FRS, CCS, am_R, MKS, MKU] at *; omega))) | (first | omega | (simp only [HS, FRS, CCS, am_R, MKS, MKU] at *; omega))) (by omega)) ?_
      rintro r1 h1 ⟨⟨hn0, rfl⟩ | ⟨hn0, rfl⟩, rfl⟩
      · refine am_W.br rfl rfl (by and_intros <;> first | trivial | exact okI rfl rfl rfl | (refine okrI rfl rfl rfl rfl ?_ ?_ <;> (first | omega | (simp only [HS, FRS, CCS, am_R, MKS, MKU] at *; omega))) | (refine okaI rfl rfl rfl rfl ?_ ?_ <;> (first | omega | (simp only [HS, FRS, CCS, am_R, MKS, MKU] at *; omega))) | (first | omega | (simp only [HS, FRS, CCS, am_R, MKS, MKU] at *; omega))) (fun c1 => absurd c1 (by decide)) (fun c1 => ?_)
        exact am_W.gp 278 rfl (by and_intros <;> first | trivial | exact okI rfl rfl rfl | (refine okrI rfl rfl rfl rfl ?_ ?_ <;> (first | omega | (simp only [HS, FRS, CCS, am_R, MKS, MKU] at *; omega))) | (refine okaI rfl rfl rfl rfl ?_ ?_ <;> (first | omega | (simp only [HS, FRS, CCS, am_R, MKS, MKU] at *; omega))) | (first | omega | (simp only [HS, FRS, CCS, am_R, MKS, MKU] at *; omega))) (hfin 0 (Or.inl ⟨hn0, rfl⟩))
      refine am_W.br rfl rfl (by and_intros <;> first | trivial | exact okI rfl rfl rfl | (refine okrI rfl rfl rfl rfl ?_ ?_ <;> (first | omega | (simp only [HS, FRS, CCS, am_R, MKS, MKU] at *; omega))) | (refine okaI rfl rfl rfl rfl ?_ ?_ <;> (first | omega | (simp only [HS, FRS, CCS, am_R, MKS, MKU] at *; omega))) | (first | omega | (simp only [HS, FRS, CCS, am_R, MKS, MKU] at *; omega))) (fun c1 => ?_) (fun c1 => absurd rfl c1)
      refine am_W.cv 10 m_Mo_isAt rfl rfl rfl rfl (by and_intros <;> first | trivial | exact okI rfl rfl rfl | (refine okrI rfl rfl rfl rfl ?_ ?_ <;> (first | omega | (simp only [HS, FRS, CCS, am_R, MKS, MKU] at *; omega))) | (refine okaI rfl rfl rfl rfl ?_ ?_ <;> (first | omega | (simp only [HS, FRS, CCS, am_R, MKS, MKU] at *; omega))) | (first | omega | (simp only [HS, FRS, CCS, am_R, MKS, MKU] at *; omega))) (c_Mo_isAt d L B1 B2 (mk fi (k0, -1, s, wde (tx (fi 60 126) (ai 131)) 501 s)) ai aj s _ 105 102 0 0 hI hs.1 hwd.1 hwd.2 (by and_intros <;> first | trivial | exact okI rfl rfl rfl | (refine okrI rfl rfl rfl rfl ?_ ?_ <;> (first | omega | (simp only [HS, FRS, CCS, am_R, MKS, MKU] at *; omega))) | (refine okaI rfl rfl rfl rfl ?_ ?_ <;> (first | omega | (simp only [HS, FRS, CCS, am_R, MKS, MKU] at *; omega))) | (first | omega | (simp only [HS, FRS, CCS, am_R, MKS, MKU] at *; omega))) (by omega)) ?_
      rintro r1 h1 ⟨⟨hn1, rfl⟩ | ⟨hn1, rfl⟩, rfl⟩
      · refine am_W.br rfl rfl (by and_intros <;> first | trivial | exact okI rfl rfl rfl | (refine okrI rfl rfl rfl rfl ?_ ?_ <;> (first | omega | (simp only [HS, FRS, CCS, am_R, MKS, MKU] at *; omega))) | (refine okaI rfl rfl rfl rfl ?_ ?_ <;> (first | omega | (simp only [HS, FRS, CCS, am_R, MKS, MKU] at *; omega))) | (first | omega | (simp only [HS, FRS, CCS, am_R, MKS, MKU] at *; omega))) (fun c1 => absurd c1 (by decide)) (fun c1 => ?_)
        exact am_W.gp 278 rfl (by and_intros <;> first | trivial | exact okI rfl rfl rfl | (refine okrI rfl rfl rfl rfl ?_ ?_ <;> (first | omega | (simp only [HS, FRS, CCS, am_R, MKS, MKU] at *; omega))) | (refine okaI rfl rfl rfl rfl ?_ ?_ <;> (first | omega | (simp only [HS, FRS, CCS, am_R, MKS, MKU] at *; omega))) | (first | omega | (simp only [HS, FRS, CCS, am_R, MKS, MKU] at *; omega))) (hfin 1 (Or.inr ⟨hn0, Or.inl ⟨hn1, rfl⟩⟩))
      refine am_W.br rfl rfl (by and_intros <;> first | trivial | exact okI rfl rfl rfl | (refine okrI rfl rfl rfl rfl ?_ ?_ <;> (first | omega | (simp only [HS, FRS, CCS, am_R, MKS, MKU] at *; omega))) | (refine okaI rfl rfl rfl rfl ?_ ?_ <;> (first | omega | (simp only [HS, FRS, CCS, am_R, MKS, MKU] at *; omega))) | (first | omega | (simp only [HS, FRS, CCS, am_R, MKS, MKU] at *; omega))) (fun c1 => ?_) (fun c1 => absurd rfl c1)
      refine am_W.cv 10 m_Mo_isAt rfl rfl rfl rfl (by and_intros <;> first | trivial | exact okI rfl rfl rfl | (refine okrI rfl rfl rfl rfl ?_ ?_ <;> (first | omega | (simp only [HS, FRS, CCS, am_R, MKS, MKU] at *; omega))) | (refine okaI rfl rfl rfl rfl ?_ ?_ <;> (first | omega | (simp only [HS, FRS, CCS, am_R, MKS, MKU] at *; omega))) | (first | omega | (simp only [HS, FRS, CCS, am_R, MKS, MKU] at *; omega))) (c_Mo_isAt d L B1 B2 (mk fi (k0, -1, s, wde (tx (fi 60 126) (ai 131)) 501 s)) ai aj s _ 105 110 0 0 hI hs.1 hwd.1 hwd.2 (by and_intros <;> first | trivial | exact okI rfl rfl rfl | (refine okrI rfl rfl rfl rfl ?_ ?_ <;> (first | omega | (simp only [HS, FRS, CCS, am_R, MKS, MKU] at *; omega))) | (refine okaI rfl rfl rfl rfl ?_ ?_ <;> (first | omega | (simp only [HS, FRS, CCS, am_R, MKS, MKU] at *; omega))) | (first | omega | (simp only [HS, FRS, CCS, am_R, MKS, MKU] at *; omega))) (by omega)) ?_
      rintro r1 h1 ⟨⟨hn2, rfl⟩ | ⟨hn2, rfl⟩, rfl⟩
      · refine am_W.br rfl rfl (by and_intros <;> first | trivial | exact okI rfl rfl rfl | (refine okrI rfl rfl rfl rfl ?_ ?_ <;> (first | omega | (simp only [HS, FRS, CCS, am_R, MKS, MKU] at *; omega))) | (refine okaI rfl rfl rfl rfl ?_ ?_ <;> (first | omega | (simp only [HS, FRS, CCS, am_R, MKS, MKU] at *; omega))) | (first | omega | (simp only [HS, FRS, CCS, am_R, MKS, MKU] at *; omega))) (fun c1 => absurd c1 (by decide)) (fun c1 => ?_)
        exact am_W.gp 278 rfl (by and_intros <;> first | trivial | exact okI rfl rfl rfl | (refine okrI rfl rfl rfl rfl ?_ ?_ <;> (first | omega | (simp only [HS, FRS, CCS, am_R, MKS, MKU] at *; omega))) | (refine okaI rfl rfl rfl rfl ?_ ?_ <;> (first | omega | (simp only [HS, FRS, CCS, am_R, MKS, MKU] at *; omega))) | (first | omega | (simp only [HS, FRS, CCS, am_R, MKS, MKU] at *; omega))) (hfin 2 (Or.inr ⟨hn0, Or.inr ⟨hn1, Or.inl ⟨hn2, rfl⟩⟩⟩))
      refine am_W.br rfl rfl (by and_intros <;> first | trivial | exact okI rfl rfl rfl | (refine okrI rfl rfl rfl rfl ?_ ?_ <;> (first | omega | (simp only [HS, FRS, CCS, am_R, MKS, MKU] at *; omega))) | (refine okaI rfl rfl rfl rfl ?_ ?_ <;> (first | omega | (simp only [HS, FRS, CCS, am_R, MKS, MKU] at *; omega))) | (first | omega | (simp only [HS, FRS, CCS, am_R, MKS, MKU] at *; omega))) (fun c1 => ?_) (fun c1 => absurd rfl c1)
      refine am_W.cv 10 m_Mo_isAt rfl rfl rfl rfl (by and_intros <;> first | trivial | exact okI rfl rfl rfl | (refine okrI rfl rfl rfl rfl ?_ ?_ <;> (first | omega | (simp only [HS, FRS, CCS, am_R, MKS, MKU] at *; omega))) | (refine okaI rfl rfl rfl rfl ?_ ?_ <;> (first | omega | (simp only [HS, FRS, CCS, am_R, MKS, MKU] at *; omega))) | (first | omega | (simp only [HS, FRS, CCS, am_R, MKS, MKU] at *; omega))) (c_Mo_isAt d L B1 B2 (mk fi (k0, -1, s, wde (tx (fi 60 126) (ai 131)) 501 s)) ai aj s _ 111 102 0 0 hI hs.1 hwd.1 hwd.2 (by and_intros <;> first | trivial | exact okI rfl rfl rfl | (refine okrI rfl rfl rfl rfl ?_ ?_ <;> (first | omega | (simp only [HS, FRS, CCS, am_R, MKS, MKU] at *; omega))) | (refine okaI rfl rfl rfl rfl ?_ ?_ <;> (first | omega | (simp only [HS, FRS, CCS, am_R, MKS, MKU] at *; omega))) | (first | omega | (simp only [HS, FRS, CCS, am_R, MKS, MKU] at *; omega))) (by omega)) ?_
      rintro r1 h1 ⟨⟨hn3, rfl⟩ | ⟨hn3, rfl⟩, rfl⟩
      · refine am_W.br rfl rfl (by and_intros <;> first | trivial | exact okI rfl rfl rfl | (refine okrI rfl rfl rfl rfl ?_ ?_ <;> (first | omega | (simp only [HS, FRS, CCS, am_R, MKS, MKU] at *; omega))) | (refine okaI rfl rfl rfl rfl ?_ ?_ <;> (first | omega | (simp only [HS, FRS, CCS, am_R, MKS, MKU] at *; omega))) | (first | omega | (simp only [HS, FRS, CCS, am_R, MKS, MKU] at *; omega))) (fun c1 => absurd c1 (by decide)) (fun c1 => ?_)
        exact am_W.gp 278 rfl (by and_intros <;> first | trivial | exact okI rfl rfl rfl | (refine okrI rfl rfl rfl rfl ?_ ?_ <;> (first | omega | (simp only [HS, FRS, CCS, am_R, MKS, MKU] at *; omega))) | (refine okaI rfl rfl rfl rfl ?_ ?_ <;> (first | omega | (simp only [HS, FRS, CCS, am_R, MKS, MKU] at *; omega))) | (first | omega | (simp only [HS, FRS, CCS, am_R, MKS, MKU] at *; omega))) (hfin 3 (Or.inr ⟨hn0, Or.inr ⟨hn1, Or.inr ⟨hn2, Or.inl ⟨hn3, rfl⟩⟩⟩⟩))
      refine am_W.br rfl rfl (by and_intros <;> first | trivial | exact okI rfl rfl rfl | (refine okrI rfl rfl rfl rfl ?_ ?_ <;> (first | omega | (simp only [HS, FRS, CCS, am_R, MKS, MKU] at *; omega))) | (refine okaI rfl rfl rfl rfl ?_ ?_ <;> (first | omega | (simp only [HS, FRS, CCS, am_R, MKS, MKU] at *; omega))) | (first | omega | (simp only [HS, FRS, CCS, am_R, MKS, MKU] at *; omega))) (fun c1 => ?_) (fun c1 => absurd rfl c1)
      refine am_W.cv 10 m_Mo_isAt rfl rfl rfl rfl (by and_intros <;> first | trivial | exact okI rfl rfl rfl | (refine okrI rfl rfl rfl rfl ?_ ?_ <;> (first | omega | (simp only [HS, FRS, CCS, am_R, MKS, MKU] at *; omega))) | (refine okaI rfl rfl rfl rfl ?_ ?_ <;> (first | omega | (simp only [HS, FRS, CCS, am_R, MKS, MKU] at *; omega))) | (first | omega | (simp only [HS, FRS, CCS, am_R, MKS, MKU] at *; omega))) (c_Mo_isAt d L B1 B2 (mk fi (k0, -1, s, wde (tx (fi 60 126) (ai 131)) 501 s)) ai aj s _ 98 121 0 0 hI hs.1 hwd.1 hwd.2 (by and_intros <;> first | trivial | exact okI rfl rfl rfl | (refine okrI rfl rfl rfl rfl ?_ ?_ <;> (first | omega | (simp only [HS, FRS, CCS, am_R, MKS, MKU] at *; omega))) | (refine okaI rfl rfl rfl rfl ?_ ?_ <;> (first | omega | (simp only [HS, FRS, CCS, am_R, MKS, MKU] at *; omega))) | (first | omega | (simp only [HS, FRS, CCS, am_R, MKS, MKU] at *; omega))) (by omega)) ?_
      rintro r1 h1 ⟨⟨hn4, rfl⟩ | ⟨hn4, rfl⟩, rfl⟩
      · refine am_W.br rfl rfl (by and_intros <;> first | trivial | exact okI rfl rfl rfl | (refine okrI rfl rfl rfl rfl ?_ ?_ <;> (first | omega | (simp only [HS, FRS, CCS, am_R, MKS, MKU] at *; omega))) | (refine okaI rfl rfl rfl rfl ?_ ?_ <;> (first | omega | (simp only [HS, FRS, CCS, am_R, MKS, MKU] at *; omega))) | (first | omega | (simp only [HS, FRS, CCS, am_R, MKS, MKU] at *; omega))) (fun c1 => absurd c1 (by decide)) (fun c1 => ?_)
        exact am_W.gp 278 rfl (by and_intros <;> first | trivial | exact okI rfl rfl rfl | (refine okrI rfl rfl rfl rfl ?_ ?_ <;> (first | omega | (simp only [HS, FRS, CCS, am_R, MKS, MKU] at *; omega))) | (refine okaI rfl rfl rfl rfl ?_ ?_ <;> (first | omega | (simp only [HS, FRS, CCS, am_R, MKS, MKU] at *; omega))) | (first | omega | (simp only [HS, FRS, CCS, am_R, MKS, MKU] at *; omega))) (hfin 4 (Or.inr ⟨hn0, Or.inr ⟨hn1, Or.inr ⟨hn2, Or.inr ⟨hn3, Or.inl ⟨hn4, rfl⟩⟩⟩⟩⟩))
      refine am_W.br rfl rfl (by and_intros <;> first | trivial | exact okI rfl rfl rfl | (refine okrI rfl rfl rfl rfl ?_ ?_ <;> (first | omega | (simp only [HS, FRS, CCS, am_R, MKS, MKU] at *; omega))) | (refine okaI rfl rfl rfl rfl ?_ ?_ <;> (first | omega | (simp only [HS, FRS, CCS, am_R, MKS, MKU] at *; omega))) | (first | omega | (simp only [HS, FRS, CCS, am_R, MKS, MKU] at *; omega))) (fun c1 => ?_) (fun c1 => absurd rfl c1)
      refine am_W.cv 10 m_Mo_isAt rfl rfl rfl rfl (by and_intros <;> first | trivial | exact okI rfl rfl rfl | (refine okrI rfl rfl rfl rfl ?_ ?_ <;> (first | omega | (simp only [HS, FRS, CCS, am_R, MKS, MKU] at *; omega))) | (refine okaI rfl rfl rfl rfl ?_ ?_ <;> (first | omega | (simp only [HS, FRS, CCS, am_R, MKS, MKU] at *; omega))) | (first | omega | (simp only [HS, FRS, CCS, am_R, MKS, MKU] at *; omega))) (c_Mo_isAt d L B1 B2 (mk fi (k0, -1, s, wde (tx (fi 60 126) (ai 131)) 501 s)) ai aj s _ 110 117 108 108 hI hs.1 hwd.1 hwd.2 (by and_intros <;> first | trivial | exact okI rfl rfl rfl | (refine okrI rfl rfl rfl rfl ?_ ?_ <;> (first | omega | (simp only [HS, FRS, CCS, am_R, MKS, MKU] at *; omega))) | (refine okaI rfl rfl rfl rfl ?_ ?_ <;> (first | omega | (simp only [HS, FRS, CCS, am_R, MKS, MKU] at *; omega))) | (first | omega | (simp only [HS, FRS, CCS, am_R, MKS, MKU] at *; omega))) (by omega)) ?_
      rintro r1 h1 ⟨⟨hn5, rfl⟩ | ⟨hn5, rfl⟩, rfl⟩
      · refine am_W.br rfl rfl (by and_intros <;> first | trivial | exact okI rfl rfl rfl | (refine okrI rfl rfl rfl rfl ?_ ?_ <;> (first | omega | (simp only [HS, FRS, CCS, am_R, MKS, MKU] at *; omega))) | (refine okaI rfl rfl rfl rfl ?_ ?_ <;> (first | omega | (simp only [HS, FRS, CCS, am_R, MKS, MKU] at *; omega))) | (first | omega | (simp only [HS, FRS, CCS, am_R, MKS, MKU] at *; omega))) (fun c1 => absurd c1 (by decide)) (fun c1 => ?_)
        exact am_W.gp 278 rfl (by and_intros <;> first | trivial | exact okI rfl rfl rfl | (refine okrI rfl rfl rfl rfl ?_ ?_ <;> (first | omega | (simp only [HS, FRS, CCS, am_R, MKS, MKU] at *; omega))) | (refine okaI rfl rfl rfl rfl ?_ ?_ <;> (first | omega | (simp only [HS, FRS, CCS, am_R, MKS, MKU] at *; omega))) | (first | omega | (simp only [HS, FRS, CCS, am_R, MKS, MKU] at *; omega))) (hfin 5 (Or.inr ⟨hn0, Or.inr ⟨hn1, Or.inr ⟨hn2, Or.inr ⟨hn3, Or.inr ⟨hn4, Or.inl ⟨hn5, rfl⟩⟩⟩⟩⟩⟩))
      refine am_W.br rfl rfl (by and_intros <;> first | trivial | exact okI rfl rfl rfl | (refine okrI rfl rfl rfl rfl ?_ ?_ <;> (first | omega | (simp only [HS, FRS, CCS, am_R, MKS, MKU] at *; omega))) | (refine okaI rfl rfl rfl rfl ?_ ?_ <;> (first | omega | (simp only [HS, FRS, CCS, am_R, MKS, MKU] at *; omega))) | (first | omega | (simp only [HS, FRS, CCS, am_R, MKS, MKU] at *; omega))) (fun c1 => ?_) (fun c1 => absurd rfl c1)
      exact am_W.gp 278 rfl (by and_intros <;> first | trivial | exact okI rfl rfl rfl | (refine okrI rfl rfl rfl rfl ?_ ?_ <;> (first | omega | (simp only [HS, FRS, CCS, am_R, MKS, MKU] at *; omega))) | (refine okaI rfl rfl rfl rfl ?_ ?_ <;> (first | omega | (simp only [HS, FRS, CCS, am_R, MKS, MKU] at *; omega))) | (first | omega | (simp only [HS, FRS, CCS, am_R, MKS, MKU] at *; omega))) (hfin (-1) (Or.inr ⟨hn0, Or.inr ⟨hn1, Or.inr ⟨hn2, Or.inr ⟨hn3, Or.inr ⟨hn4, Or.inr ⟨hn5, rfl⟩⟩⟩⟩⟩⟩))
    · rw [if_neg hq, if_neg (by rw [hts]; exact hq)]
      refine am_W.br rfl rfl (by and_intros <;> first | trivial | exact okI rfl rfl rfl | (refine okrI rfl rfl rfl rfl ?_ ?_ <;> (first | omega | (simp only [HS, FRS, CCS, am_R, MKS, MKU] at *; omega))) | (refine okaI rfl rfl rfl rfl ?_ ?_ <;> (first | omega | (simp only [HS, FRS, CCS, am_R, MKS, MKU] at *; omega))) | (first | omega | (simp only [HS, FRS, CCS, am_R, MKS, MKU] at *; omega))) (fun c2 => ?_) (fun c2 => absurd rfl c2)
      refine am_W.cs rfl rfl rfl (by and_intros <;> first | trivial | exact okI rfl rfl rfl | (refine okrI rfl rfl rfl rfl ?_ ?_ <;> (first | omega | (simp only [HS, FRS, CCS, am_R, MKS, MKU] at *; omega))) | (refine okaI rfl rfl rfl rfl ?_ ?_ <;> (first | omega | (simp only [HS, FRS, CCS, am_R, MKS, MKU] at *; omega))) | (first | omega | (simp only [HS, FRS, CCS, am_R, MKS, MKU] at *; omega))) (c_Mo_isDigit d _ _ ⟨by omega, by omega⟩) ?_
      rintro r1 h1 ⟨rfl, rfl⟩
      by_cases hd : dgt (ai 131 s)
      · rw [if_pos hd, if_pos (by rw [hts]; exact hd)]
        have hde : dge (tx (fi 60 126) (ai 131)) 4 s 0 = dge (tx (fi 60 126) (ai 131)) 3 (s + 1) (ai 131 s - 48) := by
          show (if 48 ≤ tx (fi 60 126) (ai 131) s ∧ tx (fi 60 126) (ai 131) s ≤ 57 then dge (tx (fi 60 126) (ai 131)) 3 (s + 1) (10 * 0 + tx (fi 60 126) (ai 131) s - 48) else (s, 0)) = _
          rw [hts, if_pos hd]
          congr 1
          omega
        rw [hde]
        refine am_W.br rfl rfl (by and_intros <;> first | trivial | exact okI rfl rfl rfl | (refine okrI rfl rfl rfl rfl ?_ ?_ <;> (first | omega | (simp only [HS, FRS, CCS, am_R, MKS, MKU] at *; omega))) | (refine okaI rfl rfl rfl rfl ?_ ?_ <;> (first | omega | (simp only [HS, FRS, CCS, am_R, MKS, MKU] at *; omega))) | (first | omega | (simp only [HS, FRS, CCS, am_R, MKS, MKU] at *; omega))) (fun c2 => absurd c2 (by decide)) (fun c2 => ?_)
        refine am_W.gp 316 rfl (by and_intros <;> first | trivial | exact okI rfl rfl rfl | (refine okrI rfl rfl rfl rfl ?_ ?_ <;> (first | omega | (simp only [HS, FRS, CCS, am_R, MKS, MKU] at *; omega))) | (refine okaI rfl rfl rfl rfl ?_ ?_ <;> (first | omega | (simp only [HS, FRS, CCS, am_R, MKS, MKU] at *; omega))) | (first | omega | (simp only [HS, FRS, CCS, am_R, MKS, MKU] at *; omega))) (l_Mo_dig d L B1 B2 fi ai aj k0 s (ai 131 s) _ hI ⟨hs.1, by omega⟩ 3 (s + 1) (ai 131 s - 48) _ (by omega) (by omega) (by omega) ?_ ?_)
        · simp only [HS, FRS, MKS, MKU]
        · rw [← hde]
          have hv9 := dge_lt (tx (fi 60 126) (ai 131)) s
          have hv0 := dge_in (n := fi 60 126) (T := ai 131) 4 s 0 hs.1 hs.2 (Int.le_refl 0)
          refine am_W.rt rfl rfl (by and_intros <;> first | trivial | exact okI rfl rfl rfl | (refine okrI rfl rfl rfl rfl ?_ ?_ <;> (first | omega | (simp only [HS, FRS, CCS, am_R, MKS, MKU] at *; omega))) | (refine okaI rfl rfl rfl rfl ?_ ?_ <;> (first | omega | (simp only [HS, FRS, CCS, am_R, MKS, MKU] at *; omega))) | (first | omega | (simp only [HS, FRS, CCS, am_R, MKS, MKU] at *; omega))) ⟨rfl, 2, (dge (tx (fi 60 126) (ai 131)) 4 s 0).2, ?_, ?_⟩
          · simp only [HS, MKS, MKU]
          · dsimp only
            unfold TR
            omega
      · rw [if_neg hd, if_neg (by rw [hts]; exact hd), if_neg (by omega)]
        refine am_W.br rfl rfl (by and_intros <;> first | trivial | exact okI rfl rfl rfl | (refine okrI rfl rfl rfl rfl ?_ ?_ <;> (first | omega | (simp only [HS, FRS, CCS, am_R, MKS, MKU] at *; omega))) | (refine okaI rfl rfl rfl rfl ?_ ?_ <;> (first | omega | (simp only [HS, FRS, CCS, am_R, MKS, MKU] at *; omega))) | (first | omega | (simp only [HS, FRS, CCS, am_R, MKS, MKU] at *; omega))) (fun c2 => ?_) (fun c2 => absurd rfl c2)
        refine am_W.br rfl rfl (by and_intros <;> first | trivial | exact okI rfl rfl rfl | (refine okrI rfl rfl rfl rfl ?_ ?_ <;> (first | omega | (simp only [HS, FRS, CCS, am_R, MKS, MKU] at *; omega))) | (refine okaI rfl rfl rfl rfl ?_ ?_ <;> (first | omega | (simp only [HS, FRS, CCS, am_R, MKS, MKU] at *; omega))) | (first | omega | (simp only [HS, FRS, CCS, am_R, MKS, MKU] at *; omega))) (fun c3 => ?_) (fun c3 => ?_)
        · have hyes : isg (ai 131 s) → am_W (am_ev am_prog (d + 1)) T_Mo_next (mnQ L B1 B2 fi ai aj (s, (if isg (tx (fi 60 126) (ai 131) s) then tx (fi 60 126) (ai 131) s else 0), v, s + 1)) (444, [some (.inr (.inr 126)), some (.inl (ai 131 s)), none], [], HH L B1 B2 (mk fi (k0, -1, s, s + 1)) ai aj) := by
            intro hg
            rw [hts, if_pos hg]
            refine am_W.br rfl rfl (by and_intros <;> first | trivial | exact okI rfl rfl rfl | (refine okrI rfl rfl rfl rfl ?_ ?_ <;> (first | omega | (simp only [HS, FRS, CCS, am_R, MKS, MKU] at *; omega))) | (refine okaI rfl rfl rfl rfl ?_ ?_ <;> (first | omega | (simp only [HS, FRS, CCS, am_R, MKS, MKU] at *; omega))) | (first | omega | (simp only [HS, FRS, CCS, am_R, MKS, MKU] at *; omega))) (fun c2 => absurd c2 (by decide)) (fun c2 => ?_)
            refine am_W.rt rfl rfl (by and_intros <;> first | trivial | exact okI rfl rfl rfl | (refine okrI rfl rfl rfl rfl ?_ ?_ <;> (first | omega | (simp only [HS, FRS, CCS, am_R, MKS, MKU] at *; omega))) | (refine okaI rfl rfl rfl rfl ?_ ?_ <;> (first | omega | (simp only [HS, FRS, CCS, am_R, MKS, MKU] at *; omega))) | (first | omega | (simp only [HS, FRS, CCS, am_R, MKS, MKU] at *; omega))) ⟨rfl, 3, ai 131 s, ?_, ?_⟩
            · simp only [HS, MKS, MKU]
            · dsimp only
              unfold TR
              omega
          refine am_W.br rfl rfl (by and_intros <;> first | trivial | exact okI rfl rfl rfl | (refine okrI rfl rfl rfl rfl ?_ ?_ <;> (first | omega | (simp only [HS, FRS, CCS, am_R, MKS, MKU] at *; omega))) | (refine okaI rfl rfl rfl rfl ?_ ?_ <;> (first | omega | (simp only [HS, FRS, CCS, am_R, MKS, MKU] at *; omega))) | (first | omega | (simp only [HS, FRS, CCS, am_R, MKS, MKU] at *; omega))) (fun c4 => hyes (by omega)) (fun c4 => ?_)
          refine am_W.br rfl rfl (by and_intros <;> first | trivial | exact okI rfl rfl rfl | (refine okrI rfl rfl rfl rfl ?_ ?_ <;> (first | omega | (simp only [HS, FRS, CCS, am_R, MKS, MKU] at *; omega))) | (refine okaI rfl rfl rfl rfl ?_ ?_ <;> (first | omega | (simp only [HS, FRS, CCS, am_R, MKS, MKU] at *; omega))) | (first | omega | (simp only [HS, FRS, CCS, am_R, MKS, MKU] at *; omega))) (fun c5 => hyes (by omega)) (fun c5 => ?_)
          refine am_W.br rfl rfl (by and_intros <;> first | trivial | exact okI rfl rfl rfl | (refine okrI rfl rfl rfl rfl ?_ ?_ <;> (first | omega | (simp only [HS, FRS, CCS, am_R, MKS, MKU] at *; omega))) | (refine okaI rfl rfl rfl rfl ?_ ?_ <;> (first | omega | (simp only [HS, FRS, CCS, am_R, MKS, MKU] at *; omega))) | (first | omega | (simp only [HS, FRS, CCS, am_R, MKS, MKU] at *; omega))) (fun c6 => hyes (by omega)) (fun c6 => ?_)
          refine am_W.br rfl rfl (by and_intros <;> first | trivial | exact okI rfl rfl rfl | (refine okrI rfl rfl rfl rfl ?_ ?_ <;> (first | omega | (simp only [HS, FRS, CCS, am_R, MKS, MKU] at *; omega))) | (refine okaI rfl rfl rfl rfl ?_ ?_ <;> (first | omega | (simp only [HS, FRS, CCS, am_R, MKS, MKU] at *; omega))) | (first | omega | (simp only [HS, FRS, CCS, am_R, MKS, MKU] at *; omega))) (fun c7 => hyes (by omega)) (fun c7 => ?_)
          refine am_W.br rfl rfl (by and_intros <;> first | trivial | exact okI rfl rfl rfl | (refine okrI rfl rfl rfl rfl ?_ ?_ <;> (first | omega | (simp only [HS, FRS, CCS, am_R, MKS, MKU] at *; omega))) | (refine okaI rfl rfl rfl rfl ?_ ?_ <;> (first | omega | (simp only [HS, FRS, CCS, am_R, MKS, MKU] at *; omega))) | (first | omega | (simp only [HS, FRS, CCS, am_R, MKS, MKU] at *; omega))) (fun c8 => hyes (by omega)) (fun c8 => ?_)
          refine am_W.br rfl rfl (by and_intros <;> first | trivial | exact okI rfl rfl rfl | (refine okrI rfl rfl rfl rfl ?_ ?_ <;> (first | omega | (simp only [HS, FRS, CCS, am_R, MKS, MKU] at *; omega))) | (refine okaI rfl rfl rfl rfl ?_ ?_ <;> (first | omega | (simp only [HS, FRS, CCS, am_R, MKS, MKU] at *; omega))) | (first | omega | (simp only [HS, FRS, CCS, am_R, MKS, MKU] at *; omega))) (fun c9 => hyes (by omega)) (fun c9 => ?_)
          refine am_W.br rfl rfl (by and_intros <;> first | trivial | exact okI rfl rfl rfl | (refine okrI rfl rfl rfl rfl ?_ ?_ <;> (first | omega | (simp only [HS, FRS, CCS, am_R, MKS, MKU] at *; omega))) | (refine okaI rfl rfl rfl rfl ?_ ?_ <;> (first | omega | (simp only [HS, FRS, CCS, am_R, MKS, MKU] at *; omega))) | (first | omega | (simp only [HS, FRS, CCS, am_R, MKS, MKU] at *; omega))) (fun c10 => ?_) (fun c10 => hyes (by omega))
          rw [hts, if_neg (by omega)]
          refine am_W.br rfl rfl (by and_intros <;> first | trivial | exact okI rfl rfl rfl | (refine okrI rfl rfl rfl rfl ?_ ?_ <;> (first | omega | (simp only [HS, FRS, CCS, am_R, MKS, MKU] at *; omega))) | (refine okaI rfl rfl rfl rfl ?_ ?_ <;> (first | omega | (simp only [HS, FRS, CCS, am_R, MKS, MKU] at *; omega))) | (first | omega | (simp only [HS, FRS, CCS, am_R, MKS, MKU] at *; omega))) (fun c2 => ?_) (fun c2 => absurd rfl c2)
          refine am_W.rt rfl rfl (by and_intros <;> first | trivial | exact okI rfl rfl rfl | (refine okrI rfl rfl rfl rfl ?_ ?_ <;> (first | omega | (simp only [HS, FRS, CCS, am_R, MKS, MKU] at *; omega))) | (refine okaI rfl rfl rfl rfl ?_ ?_ <;> (first | omega | (simp only [HS, FRS, CCS, am_R, MKS, MKU] at *; omega))) | (first | omega | (simp only [HS, FRS, CCS, am_R, MKS, MKU] at *; omega))) ⟨rfl, 5, ai 131 s, ?_, ?_⟩
          · simp only [HS, MKS, MKU]
          · dsimp only
            unfold TR
            omega
        · rw [hts, if_pos (by omega)]
          refine am_W.rt rfl rfl (by and_intros <;> first | trivial | exact okI rfl rfl rfl | (refine okrI rfl rfl rfl rfl ?_ ?_ <;> (first | omega | (simp only [HS, FRS, CCS, am_R, MKS, MKU] at *; omega))) | (refine okaI rfl rfl rfl rfl ?_ ?_ <;> (first | omega | (simp only [HS, FRS, CCS, am_R, MKS, MKU] at *; omega))) | (first | omega | (simp only [HS, FRS, CCS, am_R, MKS, MKU] at *; omega))) ⟨rfl, 4, -1, ?_, ?_⟩
          · simp only [HS, MKS, MKU]
          · dsimp only
            unfold TR
            omega
  · simp only [HS, FRS, MKS, MKU] at c1
    have hsn : s = fi 60 126 := by omega
    have hts : tx (fi 60 126) (ai 131) s = -1 := tx_o (by omega)
    unfold lxs
    rw [if_neg (by omega), if_neg (by omega), if_pos hts]
    refine am_W.rt rfl rfl (by and_intros <;> first | trivial | exact okI rfl rfl rfl | (refine okrI rfl rfl rfl rfl ?_ ?_ <;> (first | omega | (simp only [HS, FRS, CCS, am_R, MKS, MKU] at *; omega))) | (refine okaI rfl rfl rfl rfl ?_ ?_ <;> (first | omega | (simp only [HS, FRS, CCS, am_R, MKS, MKU] at *; omega))) | (first | omega | (simp only [HS, FRS, CCS, am_R, MKS, MKU] at *; omega))) ⟨rfl, 0, -1, ?_, ?_⟩
    · simp only [HS, MKS, MKU]
    · dsimp only
      unfold TR
      omega
