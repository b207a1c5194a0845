-- the class's tokens: the object at 23, its bytes at 24
def tk (fi : Nat → Nat → Int) (τ : Tk) : Nat → Nat → Int := fun j b => if b = 23 then (if j = 15 then τ.2.2.2 else if j = 16 then τ.1 else if j = 17 then τ.2.1 else if j = 18 then τ.2.2.1 else fi j b) else fi j b
theorem TKS : (∀ fi τ, tk fi τ 14 23 = fi 14 23) ∧ (∀ fi s q v b, tk fi (s, q, v, b) 15 23 = b) ∧ (∀ fi s q v b, tk fi (s, q, v, b) 16 23 = s) ∧ (∀ fi s q v b, tk fi (s, q, v, b) 17 23 = q) ∧ (∀ fi s q v b, tk fi (s, q, v, b) 18 23 = v) ∧ (∀ fi τ, tk fi τ 10 17 = fi 10 17) ∧ (∀ fi τ, tk fi τ 12 22 = fi 12 22) := ⟨fun _ _ => rfl, fun _ _ _ _ _ => rfl, fun _ _ _ _ _ => rfl, fun _ _ _ _ _ => rfl, fun _ _ _ _ _ => rfl, fun _ _ => rfl, fun _ _ => rfl⟩
theorem TKU : (∀ fi s q v b x, am_u2 (tk fi (s, q, v, b)) 15 23 x = tk fi (s, q, v, x)) ∧ (∀ fi s q v b x, am_u2 (tk fi (s, q, v, b)) 16 23 x = tk fi (x, q, v, b)) ∧ (∀ fi s q v b x, am_u2 (tk fi (s, q, v, b)) 17 23 x = tk fi (s, x, v, b)) ∧ (∀ fi s q v b x, am_u2 (tk fi (s, q, v, b)) 18 23 x = tk fi (s, q, x, b)) := by
  refine ⟨?_, ?_, ?_, ?_⟩ <;> intro fi s q v b x <;> funext j c <;> by_cases h0 : c = 23 <;> by_cases h1 : j = 15 <;> by_cases h2 : j = 16 <;> by_cases h3 : j = 17 <;> by_cases h4 : j = 18 <;> simp [tk, am_u2, h0, h1, h2, h3, h4] <;> omega
theorem tk_id (fi : Nat → Nat → Int) : tk fi (fi 16 23, fi 17 23, fi 18 23, fi 15 23) = fi := by
  funext j c
  by_cases h0 : c = 23 <;> by_cases h1 : j = 15 <;> by_cases h2 : j = 16 <;> by_cases h3 : j = 17 <;> by_cases h4 : j = 18 <;> simp [tk, h0, h1, h2, h3, h4]
theorem tk_n (fi : Nat → Nat → Int) (τ : Tk) {j b : Nat} (h : b ≠ 23) : tk fi τ j b = fi j b := if_neg h
theorem tk_tk (fi : Nat → Nat → Int) (τ σ : Tk) : tk (tk fi τ) σ = tk fi σ := by
  funext j c
  by_cases h0 : c = 23 <;> by_cases h1 : j = 15 <;> by_cases h2 : j = 16 <;> by_cases h3 : j = 17 <;> by_cases h4 : j = 18 <;> simp [tk, h0, h1, h2, h3, h4]
set_option maxHeartbeats 400000 in
set_option maxRecDepth 100000 in
theorem l_To_skip (d L B1 B2 : Nat) (fi : Nat → Nat → Int) (ai aj : Nat → Int → Int) (s q v : Int) (hI : txI (fi 14 23) (ai 24)) : ∀ (k : Nat) (b : Int) (h : am_H), fi 14 23 - b ≤ (k : Int) → 0 ≤ b → b ≤ fi 14 23 → h = HH L B1 B2 (tk fi (s, q, v, b)) ai aj → am_W (am_ev am_prog d) T_To_skipBlanks (fun w h' => w = none ∧ h' = HH L B1 B2 (tk fi (s, q, v, skp (tx (fi 14 23) (ai 24)) k b)) ai aj) (0, [some (.inr (.inr 23))], [], h)
  | 0, b, h, hk, h0, h1, hh => by
    subst hh
    obtain ⟨n0, n1, n2⟩ := id hI
    refine am_W.br rfl rfl (by and_intros <;> first | trivial | exact okI rfl rfl rfl | (refine okrI rfl rfl rfl rfl ?_ ?_ <;> (first | omega | (simp only [HS, FRS, CCS, am_R, TKS] at *; omega))) | (refine okaI rfl rfl rfl rfl ?_ ?_ <;> (first | omega | (simp only [HS, FRS, CCS, am_R, TKS] at *; omega))) | (first | omega | (simp only [HS, FRS, CCS, am_R, TKS] at *; omega))) (fun c1 => ?_) (fun c1 => absurd c1 (by (first | omega | (simp only [HS, FRS, CCS, am_R, TKS] at *; omega))))
    exact am_W.rt rfl rfl (by and_intros <;> first | trivial | exact okI rfl rfl rfl | (refine okrI rfl rfl rfl rfl ?_ ?_ <;> (first | omega | (simp only [HS, FRS, CCS, am_R, TKS] at *; omega))) | (refine okaI rfl rfl rfl rfl ?_ ?_ <;> (first | omega | (simp only [HS, FRS, CCS, am_R, TKS] at *; omega))) | (first | omega | (simp only [HS, FRS, CCS, am_R, TKS] at *; omega))) ⟨rfl, rfl⟩
  | k + 1, b, h, hk, h0, h1, hh => by
    subst hh
    obtain ⟨n0, n1, n2⟩ := id hI
    unfold skp
    refine am_W.br rfl rfl (by and_intros <;> first | trivial | exact okI rfl rfl rfl | (refine okrI rfl rfl rfl rfl ?_ ?_ <;> (first | omega | (simp only [HS, FRS, CCS, am_R, TKS] at *; omega))) | (refine okaI rfl rfl rfl rfl ?_ ?_ <;> (first | omega | (simp only [HS, FRS, CCS, am_R, TKS] at *; omega))) | (first | omega | (simp only [HS, FRS, CCS, am_R, TKS] at *; omega))) (fun c1 => ?_) (fun c1 => ?_)
    · simp only [HS, FRS, TKS] at c1
      rw [tx_o c1, if_neg (by omega)]
      exact am_W.rt rfl rfl (by and_intros <;> first | trivial | exact okI rfl rfl rfl | (refine okrI rfl rfl rfl rfl ?_ ?_ <;> (first | omega | (simp only [HS, FRS, CCS, am_R, TKS] at *; omega))) | (refine okaI rfl rfl rfl rfl ?_ ?_ <;> (first | omega | (simp only [HS, FRS, CCS, am_R, TKS] at *; omega))) | (first | omega | (simp only [HS, FRS, CCS, am_R, TKS] at *; omega))) ⟨rfl, rfl⟩
    · simp only [HS, FRS, TKS] at c1
      have hb := n2 b (by omega) (by omega)
      rw [tx_i h0 (by omega)]
      refine am_W.br rfl rfl (by and_intros <;> first | trivial | exact okI rfl rfl rfl | (refine okrI rfl rfl rfl rfl ?_ ?_ <;> (first | omega | (simp only [HS, FRS, CCS, am_R, TKS] at *; omega))) | (refine okaI rfl rfl rfl rfl ?_ ?_ <;> (first | omega | (simp only [HS, FRS, CCS, am_R, TKS] at *; omega))) | (first | omega | (simp only [HS, FRS, CCS, am_R, TKS] at *; omega))) (fun c2 => ?_) (fun c2 => ?_)
      · simp only [HS, FRS, TKS] at c2
        rw [if_pos (Or.inl c2)]
        refine am_W.gp 0 rfl (by and_intros <;> first | trivial | exact okI rfl rfl rfl | (refine okrI rfl rfl rfl rfl ?_ ?_ <;> (first | omega | (simp only [HS, FRS, CCS, am_R, TKS] at *; omega))) | (refine okaI rfl rfl rfl rfl ?_ ?_ <;> (first | omega | (simp only [HS, FRS, CCS, am_R, TKS] at *; omega))) | (first | omega | (simp only [HS, FRS, CCS, am_R, TKS] at *; omega))) (l_To_skip d L B1 B2 fi ai aj s q v hI k (b + 1) _ (by omega) (by omega) (by omega) ?_)
        simp only [HS, FRS, TKS, TKU]
      · simp only [HS, FRS, TKS] at c2
        refine am_W.br rfl rfl (by and_intros <;> first | trivial | exact okI rfl rfl rfl | (refine okrI rfl rfl rfl rfl ?_ ?_ <;> (first | omega | (simp only [HS, FRS, CCS, am_R, TKS] at *; omega))) | (refine okaI rfl rfl rfl rfl ?_ ?_ <;> (first | omega | (simp only [HS, FRS, CCS, am_R, TKS] at *; omega))) | (first | omega | (simp only [HS, FRS, CCS, am_R, TKS] at *; omega))) (fun c3 => ?_) (fun c3 => ?_)
        · simp only [HS, FRS, TKS] at c3
          rw [if_neg (by omega)]
          exact am_W.rt rfl rfl (by and_intros <;> first | trivial | exact okI rfl rfl rfl | (refine okrI rfl rfl rfl rfl ?_ ?_ <;> (first | omega | (simp only [HS, FRS, CCS, am_R, TKS] at *; omega))) | (refine okaI rfl rfl rfl rfl ?_ ?_ <;> (first | omega | (simp only [HS, FRS, CCS, am_R, TKS] at *; omega))) | (first | omega | (simp only [HS, FRS, CCS, am_R, TKS] at *; omega))) ⟨rfl, rfl⟩
        · simp only [HS, FRS, TKS] at c3
          rw [if_pos (by omega)]
          refine am_W.gp 0 rfl (by and_intros <;> first | trivial | exact okI rfl rfl rfl | (refine okrI rfl rfl rfl rfl ?_ ?_ <;> (first | omega | (simp only [HS, FRS, CCS, am_R, TKS] at *; omega))) | (refine okaI rfl rfl rfl rfl ?_ ?_ <;> (first | omega | (simp only [HS, FRS, CCS, am_R, TKS] at *; omega))) | (first | omega | (simp only [HS, FRS, CCS, am_R, TKS] at *; omega))) (l_To_skip d L B1 B2 fi ai aj s q v hI k (b + 1) _ (by omega) (by omega) (by omega) ?_)
          simp only [HS, FRS, TKS, TKU]
set_option maxHeartbeats 400000 in
set_option maxRecDepth 100000 in
theorem c_To_skip (d L B1 B2 : Nat) (fi : Nat → Nat → Int) (ai aj : Nat → Int → Int) (s q v b : Int) (hI : txI (fi 14 23) (ai 24)) (h0 : 0 ≤ b) (h1 : b ≤ fi 14 23) : am_M am_prog (d + 1) m_To_skipBlanks [.inr (.inr 23)] (HH L B1 B2 (tk fi (s, q, v, b)) ai aj) (fun w h' => w = none ∧ h' = HH L B1 B2 (tk fi (s, q, v, skp (tx (fi 14 23) (ai 24)) 500 b)) ai aj) := am_W.of rfl rfl (l_To_skip d L B1 B2 fi ai aj s q v hI 500 b _ (by have := hI.2.1; omega) h0 h1 rfl)
set_option maxHeartbeats 400000 in
set_option maxRecDepth 100000 in
theorem c_To_byteHere (d L B1 B2 : Nat) (fi : Nat → Nat → Int) (ai aj : Nat → Int → Int) (τ : Tk) (hI : txI (fi 14 23) (ai 24)) (h1 : am_R τ.2.2.2) : am_M am_prog (d + 1) m_To_byteHere [.inr (.inr 23)] (HH L B1 B2 (tk fi τ) ai aj) (fun w h' => w = some (.inl (tx (fi 14 23) (ai 24) τ.2.2.2)) ∧ h' = HH L B1 B2 (tk fi τ) ai aj) := by
  obtain ⟨s, q, v, b⟩ := τ
  obtain ⟨n0, n1, n2⟩ := id hI
  simp only at h1 ⊢
  unfold tx
  refine am_W.of rfl rfl ?_
  refine am_W.br rfl rfl (by and_intros <;> first | trivial | exact okI rfl rfl rfl | (refine okrI rfl rfl rfl rfl ?_ ?_ <;> (first | omega | (simp only [HS, FRS, CCS, am_R, TKS] at *; omega))) | (refine okaI rfl rfl rfl rfl ?_ ?_ <;> (first | omega | (simp only [HS, FRS, CCS, am_R, TKS] at *; omega))) | (first | omega | (simp only [HS, FRS, CCS, am_R, TKS] at *; omega))) (fun c1 => ?_) (fun c1 => ?_)
  · simp only [HS, FRS, TKS] at c1
    rw [if_neg (by omega)]
    exact am_W.rt rfl rfl (by and_intros <;> first | trivial | exact okI rfl rfl rfl | (refine okrI rfl rfl rfl rfl ?_ ?_ <;> (first | omega | (simp only [HS, FRS, CCS, am_R, TKS] at *; omega))) | (refine okaI rfl rfl rfl rfl ?_ ?_ <;> (first | omega | (simp only [HS, FRS, CCS, am_R, TKS] at *; omega))) | (first | omega | (simp only [HS, FRS, CCS, am_R, TKS] at *; omega))) ⟨rfl, rfl⟩
  · simp only [HS, FRS, TKS] at c1
    refine am_W.br rfl rfl (by and_intros <;> first | trivial | exact okI rfl rfl rfl | (refine okrI rfl rfl rfl rfl ?_ ?_ <;> (first | omega | (simp only [HS, FRS, CCS, am_R, TKS] at *; omega))) | (refine okaI rfl rfl rfl rfl ?_ ?_ <;> (first | omega | (simp only [HS, FRS, CCS, am_R, TKS] at *; omega))) | (first | omega | (simp only [HS, FRS, CCS, am_R, TKS] at *; omega))) (fun c2 => ?_) (fun c2 => ?_)
    · simp only [HS, FRS, TKS] at c2
      rw [if_pos (by omega)]
      exact am_W.rt rfl rfl (by and_intros <;> first | trivial | exact okI rfl rfl rfl | (refine okrI rfl rfl rfl rfl ?_ ?_ <;> (first | omega | (simp only [HS, FRS, CCS, am_R, TKS] at *; omega))) | (refine okaI rfl rfl rfl rfl ?_ ?_ <;> (first | omega | (simp only [HS, FRS, CCS, am_R, TKS] at *; omega))) | (first | omega | (simp only [HS, FRS, CCS, am_R, TKS] at *; omega))) ⟨rfl, rfl⟩
    · simp only [HS, FRS, TKS] at c2
      rw [if_neg (by omega)]
      exact am_W.rt rfl rfl (by and_intros <;> first | trivial | exact okI rfl rfl rfl | (refine okrI rfl rfl rfl rfl ?_ ?_ <;> (first | omega | (simp only [HS, FRS, CCS, am_R, TKS] at *; omega))) | (refine okaI rfl rfl rfl rfl ?_ ?_ <;> (first | omega | (simp only [HS, FRS, CCS, am_R, TKS] at *; omega))) | (first | omega | (simp only [HS, FRS, CCS, am_R, TKS] at *; omega))) ⟨rfl, rfl⟩
theorem wde_z {t : Int → Int} {p : Int} (k : Nat) (h : ¬ (97 ≤ t p ∧ t p ≤ 122)) : wde t (k + 1) p = p := if_neg h
theorem wde_s {t : Int → Int} {p : Int} (k : Nat) (h : 97 ≤ t p ∧ t p ≤ 122) : wde t (k + 1) p = wde t k (p + 1) := if_pos h
theorem wdk_z {t : Int → Int} {p : Int} (k : Nat) (q : Int) (h : ¬ (97 ≤ t p ∧ t p ≤ 122)) : wdk t (k + 1) p q = q := if_neg h
theorem wdk_s {t : Int → Int} {p : Int} (k : Nat) (q : Int) (h : 97 ≤ t p ∧ t p ≤ 122) : wdk t (k + 1) p q = wdk t k (p + 1) (am_or (am_shl q 8) (t p)) := if_pos h
set_option maxHeartbeats 400000 in
set_option maxRecDepth 100000 in
theorem l_To_word (d L B1 B2 : Nat) (fi : Nat → Nat → Int) (ai aj : Nat → Int → Int) (s v : Int) (hI : txI (fi 14 23) (ai 24)) (hs : 0 ≤ s ∧ s ≤ 500) : ∀ (k : Nat) (b q : Int) (h : am_H), fi 14 23 - b ≤ (k : Int) → 0 ≤ b → b ≤ fi 14 23 → h = HH L B1 B2 (tk fi (s, q, v, b)) ai aj → am_W (am_ev am_prog d) T_To_takeWord (fun w h' => w = none ∧ h' = HH L B1 B2 (tk fi (s, (if 4 < wde (tx (fi 14 23) (ai 24)) k b - s then 0 else wdk (tx (fi 14 23) (ai 24)) k b q), v, wde (tx (fi 14 23) (ai 24)) k b)) ai aj) (5, [some (.inr (.inr 23))], [], h) := by
  have hend : ∀ (b q : Int), 0 ≤ b → b ≤ fi 14 23 → am_W (am_ev am_prog d) T_To_takeWord (fun w h' => w = none ∧ h' = HH L B1 B2 (tk fi (s, (if 4 < b - s then 0 else q), v, b)) ai aj) (78, [some (.inr (.inr 23))], [], HH L B1 B2 (tk fi (s, q, v, b)) ai aj) := by
    intro b q h0 h1
    obtain ⟨n0, n1, n2⟩ := id hI
    refine am_W.br rfl rfl (by and_intros <;> first | trivial | exact okI rfl rfl rfl | (refine okrI rfl rfl rfl rfl ?_ ?_ <;> (first | omega | (simp only [HS, FRS, CCS, am_R, TKS] at *; omega))) | (refine okaI rfl rfl rfl rfl ?_ ?_ <;> (first | omega | (simp only [HS, FRS, CCS, am_R, TKS] at *; omega))) | (first | omega | (simp only [HS, FRS, CCS, am_R, TKS] at *; omega))) (fun c1 => ?_) (fun c1 => ?_)
    · simp only [HS, FRS, TKS] at c1
      rw [if_neg (by omega)]
      exact am_W.rt rfl rfl (by and_intros <;> first | trivial | exact okI rfl rfl rfl | (refine okrI rfl rfl rfl rfl ?_ ?_ <;> (first | omega | (simp only [HS, FRS, CCS, am_R, TKS] at *; omega))) | (refine okaI rfl rfl rfl rfl ?_ ?_ <;> (first | omega | (simp only [HS, FRS, CCS, am_R, TKS] at *; omega))) | (first | omega | (simp only [HS, FRS, CCS, am_R, TKS] at *; omega))) ⟨rfl, rfl⟩
    · simp only [HS, FRS, TKS] at c1
      rw [if_pos (by omega)]
      refine am_W.rt rfl rfl (by and_intros <;> first | trivial | exact okI rfl rfl rfl | (refine okrI rfl rfl rfl rfl ?_ ?_ <;> (first | omega | (simp only [HS, FRS, CCS, am_R, TKS] at *; omega))) | (refine okaI rfl rfl rfl rfl ?_ ?_ <;> (first | omega | (simp only [HS, FRS, CCS, am_R, TKS] at *; omega))) | (first | omega | (simp only [HS, FRS, CCS, am_R, TKS] at *; omega))) ⟨rfl, ?_⟩
      simp only [HS, TKU]
  intro k
  induction k with
  | zero =>
    intro b q h hk h0 h1 hh
    subst hh
    obtain ⟨n0, n1, n2⟩ := id hI
    refine am_W.br rfl rfl (by and_intros <;> first | trivial | exact okI rfl rfl rfl | (refine okrI rfl rfl rfl rfl ?_ ?_ <;> (first | omega | (simp only [HS, FRS, CCS, am_R, TKS] at *; omega))) | (refine okaI rfl rfl rfl rfl ?_ ?_ <;> (first | omega | (simp only [HS, FRS, CCS, am_R, TKS] at *; omega))) | (first | omega | (simp only [HS, FRS, CCS, am_R, TKS] at *; omega))) (fun c1 => hend b q h0 h1) (fun c1 => absurd c1 (by (first | omega | (simp only [HS, FRS, CCS, am_R, TKS] at *; omega))))
  | succ k ih =>
    intro b q h hk h0 h1 hh
    subst hh
    obtain ⟨n0, n1, n2⟩ := id hI
    have hz : ¬ (97 ≤ tx (fi 14 23) (ai 24) b ∧ tx (fi 14 23) (ai 24) b ≤ 122) → am_W (am_ev am_prog d) T_To_takeWord (fun w h' => w = none ∧ h' = HH L B1 B2 (tk fi (s, (if 4 < wde (tx (fi 14 23) (ai 24)) (k + 1) b - s then 0 else wdk (tx (fi 14 23) (ai 24)) (k + 1) b q), v, wde (tx (fi 14 23) (ai 24)) (k + 1) b)) ai aj) (78, [some (.inr (.inr 23))], [], HH L B1 B2 (tk fi (s, q, v, b)) ai aj) := by
      intro hq
      rw [wde_z k hq, wdk_z k q hq]
      exact hend b q h0 h1
    refine am_W.br rfl rfl (by and_intros <;> first | trivial | exact okI rfl rfl rfl | (refine okrI rfl rfl rfl rfl ?_ ?_ <;> (first | omega | (simp only [HS, FRS, CCS, am_R, TKS] at *; omega))) | (refine okaI rfl rfl rfl rfl ?_ ?_ <;> (first | omega | (simp only [HS, FRS, CCS, am_R, TKS] at *; omega))) | (first | omega | (simp only [HS, FRS, CCS, am_R, TKS] at *; omega))) (fun c1 => ?_) (fun c1 => ?_)
    · simp only [HS, FRS, TKS] at c1
      exact hz (by rw [tx_o c1]; omega)
    · simp only [HS, FRS, TKS] at c1
      have hb := n2 b (by omega) (by omega)
      have ht : tx (fi 14 23) (ai 24) b = ai 24 b := tx_i h0 (by omega)
      refine am_W.br rfl rfl (by and_intros <;> first | trivial | exact okI rfl rfl rfl | (refine okrI rfl rfl rfl rfl ?_ ?_ <;> (first | omega | (simp only [HS, FRS, CCS, am_R, TKS] at *; omega))) | (refine okaI rfl rfl rfl rfl ?_ ?_ <;> (first | omega | (simp only [HS, FRS, CCS, am_R, TKS] at *; omega))) | (first | omega | (simp only [HS, FRS, CCS, am_R, TKS] at *; omega))) (fun c2 => ?_) (fun c2 => ?_)
      · simp only [HS, FRS, TKS] at c2
        exact hz (by omega)
      · simp only [HS, FRS, TKS] at c2
        refine am_W.br rfl rfl (by and_intros <;> first | trivial | exact okI rfl rfl rfl | (refine okrI rfl rfl rfl rfl ?_ ?_ <;> (first | omega | (simp only [HS, FRS, CCS, am_R, TKS] at *; omega))) | (refine okaI rfl rfl rfl rfl ?_ ?_ <;> (first | omega | (simp only [HS, FRS, CCS, am_R, TKS] at *; omega))) | (first | omega | (simp only [HS, FRS, CCS, am_R, TKS] at *; omega))) (fun c3 => ?_) (fun c3 => ?_)
        · simp only [HS, FRS, TKS] at c3
          exact hz (by omega)
        · simp only [HS, FRS, TKS] at c3
          rw [wde_s k (by omega), wdk_s k q (by omega), ht]
          refine am_W.gp 5 rfl (by and_intros <;> first | trivial | exact okI rfl rfl rfl | (refine okrI rfl rfl rfl rfl ?_ ?_ <;> (first | omega | (simp only [HS, FRS, CCS, am_R, TKS] at *; omega))) | (refine okaI rfl rfl rfl rfl ?_ ?_ <;> (first | omega | (simp only [HS, FRS, CCS, am_R, TKS] at *; omega))) | (first | omega | (simp only [HS, FRS, CCS, am_R, TKS] at *; omega))) (ih (b + 1) _ _ (by omega) (by omega) (by omega) ?_)
          simp only [HS, FRS, TKS, TKU]
set_option maxHeartbeats 400000 in
set_option maxRecDepth 100000 in
theorem c_To_takeWord (d L B1 B2 : Nat) (fi : Nat → Nat → Int) (ai aj : Nat → Int → Int) (s q v : Int) (hI : txI (fi 14 23) (ai 24)) (h0 : 0 ≤ s) (h1 : s ≤ fi 14 23) : am_M am_prog (d + 1) m_To_takeWord [.inr (.inr 23)] (HH L B1 B2 (tk fi (s, q, v, s)) ai aj) (fun w h' => w = none ∧ h' = HH L B1 B2 (tk fi (s, (if 4 < wde (tx (fi 14 23) (ai 24)) 501 s - s then 0 else wdk (tx (fi 14 23) (ai 24)) 501 s 0), v, wde (tx (fi 14 23) (ai 24)) 501 s)) ai aj) := by
  have := hI.2.1
  refine am_W.of rfl rfl ?_
  refine am_W.gp 5 rfl (by and_intros <;> first | trivial | exact okI rfl rfl rfl | (refine okrI rfl rfl rfl rfl ?_ ?_ <;> (first | omega | (simp only [HS, FRS, CCS, am_R, TKS] at *; omega))) | (refine okaI rfl rfl rfl rfl ?_ ?_ <;> (first | omega | (simp only [HS, FRS, CCS, am_R, TKS] at *; omega))) | (first | omega | (simp only [HS, FRS, CCS, am_R, TKS] at *; omega))) (l_To_word d L B1 B2 fi ai aj s v hI ⟨h0, by omega⟩ 501 s 0 _ (by omega) h0 h1 ?_)
  simp only [HS, TKU]
set_option maxHeartbeats 400000 in
set_option maxRecDepth 100000 in
theorem l_To_digits (d L B1 B2 : Nat) (fi : Nat → Nat → Int) (ai aj : Nat → Int → Int) (s q : Int) (hI : txI (fi 14 23) (ai 24)) : ∀ (k : Nat) (b v i : Int) (h : am_H), i + (k : Int) = 4 → 0 ≤ i → 0 ≤ b → b ≤ fi 14 23 → h = HH L B1 B2 (tk fi (s, q, v, b)) ai aj → am_W (am_ev am_prog d) T_To_takeDigits (fun w h' => w = some (.inl (i + (dge (tx (fi 14 23) (ai 24)) k b v).1 - b)) ∧ h' = HH L B1 B2 (tk fi (s, q, (dge (tx (fi 14 23) (ai 24)) k b v).2, (dge (tx (fi 14 23) (ai 24)) k b v).1)) ai aj) (7, [some (.inr (.inr 23)), some (.inl i)], [], h)
  | 0, b, v, i, h, hk, hi, h0, h1, hh => by
    subst hh
    refine am_W.br rfl rfl (by and_intros <;> first | trivial | exact okI rfl rfl rfl | (refine okrI rfl rfl rfl rfl ?_ ?_ <;> (first | omega | (simp only [HS, FRS, CCS, am_R, TKS] at *; omega))) | (refine okaI rfl rfl rfl rfl ?_ ?_ <;> (first | omega | (simp only [HS, FRS, CCS, am_R, TKS] at *; omega))) | (first | omega | (simp only [HS, FRS, CCS, am_R, TKS] at *; omega))) (fun c1 => ?_) (fun c1 => absurd c1 (by omega))
    refine am_W.rt rfl rfl (by and_intros <;> first | trivial | exact okI rfl rfl rfl | (refine okrI rfl rfl rfl rfl ?_ ?_ <;> (first | omega | (simp only [HS, FRS, CCS, am_R, TKS] at *; omega))) | (refine okaI rfl rfl rfl rfl ?_ ?_ <;> (first | omega | (simp only [HS, FRS, CCS, am_R, TKS] at *; omega))) | (first | omega | (simp only [HS, FRS, CCS, am_R, TKS] at *; omega))) ⟨?_, rfl⟩
    unfold dge
    congr 2
    dsimp only
    omega
  | k + 1, b, v, i, h, hk, hi, h0, h1, hh => by
    subst hh
    obtain ⟨n0, n1, n2⟩ := id hI
    have hend : some (Sum.inl i) = (some (Sum.inl (i + b - b)) : Option am_V) := by
      congr 2
      omega
    unfold dge
    refine am_W.br rfl rfl (by and_intros <;> first | trivial | exact okI rfl rfl rfl | (refine okrI rfl rfl rfl rfl ?_ ?_ <;> (first | omega | (simp only [HS, FRS, CCS, am_R, TKS] at *; omega))) | (refine okaI rfl rfl rfl rfl ?_ ?_ <;> (first | omega | (simp only [HS, FRS, CCS, am_R, TKS] at *; omega))) | (first | omega | (simp only [HS, FRS, CCS, am_R, TKS] at *; omega))) (fun c0 => absurd c0 (by omega)) (fun c0 => ?_)
    refine am_W.br rfl rfl (by and_intros <;> first | trivial | exact okI rfl rfl rfl | (refine okrI rfl rfl rfl rfl ?_ ?_ <;> (first | omega | (simp only [HS, FRS, CCS, am_R, TKS] at *; omega))) | (refine okaI rfl rfl rfl rfl ?_ ?_ <;> (first | omega | (simp only [HS, FRS, CCS, am_R, TKS] at *; omega))) | (first | omega | (simp only [HS, FRS, CCS, am_R, TKS] at *; omega))) (fun c1 => ?_) (fun c1 => ?_)
    · simp only [HS, FRS, TKS] at c1
      rw [tx_o c1, if_neg (by omega)]
      exact am_W.rt rfl rfl (by and_intros <;> first | trivial | exact okI rfl rfl rfl | (refine okrI rfl rfl rfl rfl ?_ ?_ <;> (first | omega | (simp only [HS, FRS, CCS, am_R, TKS] at *; omega))) | (refine okaI rfl rfl rfl rfl ?_ ?_ <;> (first | omega | (simp only [HS, FRS, CCS, am_R, TKS] at *; omega))) | (first | omega | (simp only [HS, FRS, CCS, am_R, TKS] at *; omega))) ⟨hend, rfl⟩
    · simp only [HS, FRS, TKS] at c1
      have hb := n2 b (by omega) (by omega)
      rw [tx_i h0 (by omega)]
      refine am_W.br rfl rfl (by and_intros <;> first | trivial | exact okI rfl rfl rfl | (refine okrI rfl rfl rfl rfl ?_ ?_ <;> (first | omega | (simp only [HS, FRS, CCS, am_R, TKS] at *; omega))) | (refine okaI rfl rfl rfl rfl ?_ ?_ <;> (first | omega | (simp only [HS, FRS, CCS, am_R, TKS] at *; omega))) | (first | omega | (simp only [HS, FRS, CCS, am_R, TKS] at *; omega))) (fun c2 => ?_) (fun c2 => ?_)
      · simp only [HS, FRS, TKS] at c2
        rw [if_neg (by omega)]
        exact am_W.rt rfl rfl (by and_intros <;> first | trivial | exact okI rfl rfl rfl | (refine okrI rfl rfl rfl rfl ?_ ?_ <;> (first | omega | (simp only [HS, FRS, CCS, am_R, TKS] at *; omega))) | (refine okaI rfl rfl rfl rfl ?_ ?_ <;> (first | omega | (simp only [HS, FRS, CCS, am_R, TKS] at *; omega))) | (first | omega | (simp only [HS, FRS, CCS, am_R, TKS] at *; omega))) ⟨hend, rfl⟩
      · simp only [HS, FRS, TKS] at c2
        refine am_W.br rfl rfl (by and_intros <;> first | trivial | exact okI rfl rfl rfl | (refine okrI rfl rfl rfl rfl ?_ ?_ <;> (first | omega | (simp only [HS, FRS, CCS, am_R, TKS] at *; omega))) | (refine okaI rfl rfl rfl rfl ?_ ?_ <;> (first | omega | (simp only [HS, FRS, CCS, am_R, TKS] at *; omega))) | (first | omega | (simp only [HS, FRS, CCS, am_R, TKS] at *; omega))) (fun c3 => ?_) (fun c3 => ?_)
        · simp only [HS, FRS, TKS] at c3
          rw [if_neg (by omega)]
          exact am_W.rt rfl rfl (by and_intros <;> first | trivial | exact okI rfl rfl rfl | (refine okrI rfl rfl rfl rfl ?_ ?_ <;> (first | omega | (simp only [HS, FRS, CCS, am_R, TKS] at *; omega))) | (refine okaI rfl rfl rfl rfl ?_ ?_ <;> (first | omega | (simp only [HS, FRS, CCS, am_R, TKS] at *; omega))) | (first | omega | (simp only [HS, FRS, CCS, am_R, TKS] at *; omega))) ⟨hend, rfl⟩
        · simp only [HS, FRS, TKS] at c3
          rw [if_pos (by omega)]
          refine am_W.gp 7 rfl (by and_intros <;> first | trivial | exact okI rfl rfl rfl | (refine okrI rfl rfl rfl rfl ?_ ?_ <;> (first | omega | (simp only [HS, FRS, CCS, am_R, TKS] at *; omega))) | (refine okaI rfl rfl rfl rfl ?_ ?_ <;> (first | omega | (simp only [HS, FRS, CCS, am_R, TKS] at *; omega))) | (first | omega | (simp only [HS, FRS, CCS, am_R, TKS] at *; omega))) ((l_To_digits d L B1 B2 fi ai aj s q hI k (b + 1) (10 * v + ai 24 b - 48) (i + 1) _ (by omega) (by omega) (by omega) (by omega) ?_).mono ?_)
          · simp only [HS, FRS, TKS, TKU]
          · rintro w h' ⟨rfl, rfl⟩
            refine ⟨?_, rfl⟩
            congr 2
            omega
set_option maxHeartbeats 400000 in
set_option maxRecDepth 100000 in
theorem c_To_takeDigits (d L B1 B2 : Nat) (fi : Nat → Nat → Int) (ai aj : Nat → Int → Int) (s q v b : Int) (hI : txI (fi 14 23) (ai 24)) (h0 : 0 ≤ b) (h1 : b ≤ fi 14 23) : am_M am_prog (d + 1) m_To_takeDigits [.inr (.inr 23)] (HH L B1 B2 (tk fi (s, q, v, b)) ai aj) (fun w h' => w = some (.inl ((dge (tx (fi 14 23) (ai 24)) 4 b 0).1 - b)) ∧ h' = HH L B1 B2 (tk fi (s, q, (dge (tx (fi 14 23) (ai 24)) 4 b 0).2, (dge (tx (fi 14 23) (ai 24)) 4 b 0).1)) ai aj) := by
  refine am_W.of rfl rfl ?_
  refine am_W.gp 7 rfl (by and_intros <;> first | trivial | exact okI rfl rfl rfl | (refine okrI rfl rfl rfl rfl ?_ ?_ <;> (first | omega | (simp only [HS, FRS, CCS, am_R, TKS] at *; omega))) | (refine okaI rfl rfl rfl rfl ?_ ?_ <;> (first | omega | (simp only [HS, FRS, CCS, am_R, TKS] at *; omega))) | (first | omega | (simp only [HS, FRS, CCS, am_R, TKS] at *; omega))) ((l_To_digits d L B1 B2 fi ai aj s q hI 4 b 0 0 _ (by omega) (by omega) h0 h1 ?_).mono ?_)
  · simp only [HS, TKU]
  · rintro w h' ⟨rfl, rfl⟩
    refine ⟨?_, rfl⟩
    congr 2
    omega
set_option maxHeartbeats 400000 in
set_option maxRecDepth 100000 in
theorem c_To_isSign (d : Nat) (c : Int) (h : am_H) (hc : am_R c) : am_M am_prog (d + 1) m_To_isSign [.inl c] h (fun v h' => v = some (.inl (if isg c then 1 else 0)) ∧ h' = h) := by
  refine am_W.of rfl rfl ?_
  have hy : isg c → am_W (am_ev am_prog d) T_To_isSign (fun v h' => v = some (.inl (if isg c then 1 else 0)) ∧ h' = h) (48, [some (.inl c)], [], h) := by
    intro q
    rw [if_pos q]
    exact am_W.rt rfl rfl (by and_intros <;> first | trivial | exact okI rfl rfl rfl | (refine okrI rfl rfl rfl rfl ?_ ?_ <;> (first | omega | (simp only [HS, FRS, CCS, am_R, TKS] at *; omega))) | (refine okaI rfl rfl rfl rfl ?_ ?_ <;> (first | omega | (simp only [HS, FRS, CCS, am_R, TKS] at *; omega))) | (first | omega | (simp only [HS, FRS, CCS, am_R, TKS] at *; omega))) ⟨rfl, rfl⟩
  refine am_W.br rfl rfl (by and_intros <;> first | trivial | exact okI rfl rfl rfl | (refine okrI rfl rfl rfl rfl ?_ ?_ <;> (first | omega | (simp only [HS, FRS, CCS, am_R, TKS] at *; omega))) | (refine okaI rfl rfl rfl rfl ?_ ?_ <;> (first | omega | (simp only [HS, FRS, CCS, am_R, TKS] at *; omega))) | (first | omega | (simp only [HS, FRS, CCS, am_R, TKS] at *; omega))) (fun c1 => hy (by omega)) (fun c1 => ?_)
  refine am_W.br rfl rfl (by and_intros <;> first | trivial | exact okI rfl rfl rfl | (refine okrI rfl rfl rfl rfl ?_ ?_ <;> (first | omega | (simp only [HS, FRS, CCS, am_R, TKS] at *; omega))) | (refine okaI rfl rfl rfl rfl ?_ ?_ <;> (first | omega | (simp only [HS, FRS, CCS, am_R, TKS] at *; omega))) | (first | omega | (simp only [HS, FRS, CCS, am_R, TKS] at *; omega))) (fun c2 => hy (by omega)) (fun c2 => ?_)
  refine am_W.br rfl rfl (by and_intros <;> first | trivial | exact okI rfl rfl rfl | (refine okrI rfl rfl rfl rfl ?_ ?_ <;> (first | omega | (simp only [HS, FRS, CCS, am_R, TKS] at *; omega))) | (refine okaI rfl rfl rfl rfl ?_ ?_ <;> (first | omega | (simp only [HS, FRS, CCS, am_R, TKS] at *; omega))) | (first | omega | (simp only [HS, FRS, CCS, am_R, TKS] at *; omega))) (fun c3 => hy (by omega)) (fun c3 => ?_)
  refine am_W.br rfl rfl (by and_intros <;> first | trivial | exact okI rfl rfl rfl | (refine okrI rfl rfl rfl rfl ?_ ?_ <;> (first | omega | (simp only [HS, FRS, CCS, am_R, TKS] at *; omega))) | (refine okaI rfl rfl rfl rfl ?_ ?_ <;> (first | omega | (simp only [HS, FRS, CCS, am_R, TKS] at *; omega))) | (first | omega | (simp only [HS, FRS, CCS, am_R, TKS] at *; omega))) (fun c4 => hy (by omega)) (fun c4 => ?_)
  refine am_W.br rfl rfl (by and_intros <;> first | trivial | exact okI rfl rfl rfl | (refine okrI rfl rfl rfl rfl ?_ ?_ <;> (first | omega | (simp only [HS, FRS, CCS, am_R, TKS] at *; omega))) | (refine okaI rfl rfl rfl rfl ?_ ?_ <;> (first | omega | (simp only [HS, FRS, CCS, am_R, TKS] at *; omega))) | (first | omega | (simp only [HS, FRS, CCS, am_R, TKS] at *; omega))) (fun c5 => hy (by omega)) (fun c5 => ?_)
  refine am_W.br rfl rfl (by and_intros <;> first | trivial | exact okI rfl rfl rfl | (refine okrI rfl rfl rfl rfl ?_ ?_ <;> (first | omega | (simp only [HS, FRS, CCS, am_R, TKS] at *; omega))) | (refine okaI rfl rfl rfl rfl ?_ ?_ <;> (first | omega | (simp only [HS, FRS, CCS, am_R, TKS] at *; omega))) | (first | omega | (simp only [HS, FRS, CCS, am_R, TKS] at *; omega))) (fun c6 => hy (by omega)) (fun c6 => ?_)
  refine am_W.br rfl rfl (by and_intros <;> first | trivial | exact okI rfl rfl rfl | (refine okrI rfl rfl rfl rfl ?_ ?_ <;> (first | omega | (simp only [HS, FRS, CCS, am_R, TKS] at *; omega))) | (refine okaI rfl rfl rfl rfl ?_ ?_ <;> (first | omega | (simp only [HS, FRS, CCS, am_R, TKS] at *; omega))) | (first | omega | (simp only [HS, FRS, CCS, am_R, TKS] at *; omega))) (fun c7 => hy (by omega)) (fun c7 => ?_)
  refine am_W.br rfl rfl (by and_intros <;> first | trivial | exact okI rfl rfl rfl | (refine okrI rfl rfl rfl rfl ?_ ?_ <;> (first | omega | (simp only [HS, FRS, CCS, am_R, TKS] at *; omega))) | (refine okaI rfl rfl rfl rfl ?_ ?_ <;> (first | omega | (simp only [HS, FRS, CCS, am_R, TKS] at *; omega))) | (first | omega | (simp only [HS, FRS, CCS, am_R, TKS] at *; omega))) (fun c8 => ?_) (fun c8 => hy (by omega))
  rw [if_neg (by omega)]
  exact am_W.rt rfl rfl (by and_intros <;> first | trivial | exact okI rfl rfl rfl | (refine okrI rfl rfl rfl rfl ?_ ?_ <;> (first | omega | (simp only [HS, FRS, CCS, am_R, TKS] at *; omega))) | (refine okaI rfl rfl rfl rfl ?_ ?_ <;> (first | omega | (simp only [HS, FRS, CCS, am_R, TKS] at *; omega))) | (first | omega | (simp only [HS, FRS, CCS, am_R, TKS] at *; omega))) ⟨rfl, rfl⟩
set_option maxHeartbeats 400000 in
set_option maxRecDepth 100000 in
theorem c_To_next (d L B1 B2 : Nat) (fi : Nat → Nat → Int) (ai aj : Nat → Int → Int) (s0 q0 v b : Int) (hI : txI (fi 14 23) (ai 24)) (h0 : 0 ≤ b) (h1 : b ≤ fi 14 23) : am_M am_prog (d + 2) m_To_next [.inr (.inr 23)] (HH L B1 B2 (tk fi (s0, q0, v, b)) ai aj) (fun w h' => w = none ∧ h' = HH L B1 B2 (tk fi (lx (tx (fi 14 23) (ai 24)) b v)) ai aj) := by
  obtain ⟨n0, n1, n2⟩ := id hI
  have hs := skp_in (n := fi 14 23) (T := ai 24) 500 b h0 h1
  refine am_W.of rfl rfl ?_
  refine am_W.cv 3 m_To_skipBlanks rfl rfl rfl rfl (by and_intros <;> first | trivial | exact okI rfl rfl rfl | (refine okrI rfl rfl rfl rfl ?_ ?_ <;> (first | omega | (simp only [HS, FRS, CCS, am_R, TKS] at *; omega))) | (refine okaI rfl rfl rfl rfl ?_ ?_ <;> (first | omega | (simp only [HS, FRS, CCS, am_R, TKS] at *; omega))) | (first | omega | (simp only [HS, FRS, CCS, am_R, TKS] at *; omega))) (c_To_skip d L B1 B2 fi ai aj s0 q0 v b hI h0 h1) ?_
  rintro r1 h1 ⟨rfl, rfl⟩
  unfold lx
  generalize skp (tx (fi 14 23) (ai 24)) 500 b = s at *
  have eh : am_ufi (HH L B1 B2 (tk fi (s0, q0, v, s)) ai aj) 16 23 (am_fi (HH L B1 B2 (tk fi (s0, q0, v, s)) ai aj) 15 23) = HH L B1 B2 (tk fi (s, q0, v, s)) ai aj := by simp only [HS, TKS, TKU]
  refine am_W.cv 3 m_To_byteHere rfl rfl rfl rfl (by and_intros <;> first | trivial | exact okI rfl rfl rfl | (refine okrI rfl rfl rfl rfl ?_ ?_ <;> (first | omega | (simp only [HS, FRS, CCS, am_R, TKS] at *; omega))) | (refine okaI rfl rfl rfl rfl ?_ ?_ <;> (first | omega | (simp only [HS, FRS, CCS, am_R, TKS] at *; omega))) | (first | omega | (simp only [HS, FRS, CCS, am_R, TKS] at *; omega))) (by rw [eh]; exact c_To_byteHere d L B1 B2 fi ai aj (s, q0, v, s) hI ⟨by dsimp only; omega, by dsimp only; omega⟩) ?_
  rintro r1 h1 ⟨rfl, rfl⟩
  dsimp only
  have ht := tx_R hI s
  unfold lxs
  have hno : ¬ (97 ≤ tx (fi 14 23) (ai 24) s ∧ tx (fi 14 23) (ai 24) s ≤ 122) → am_W (am_ev am_prog (d + 1)) T_To_next (fun w h' => w = none ∧ h' = HH L B1 B2 (tk fi (if 48 ≤ tx (fi 14 23) (ai 24) s ∧ tx (fi 14 23) (ai 24) s ≤ 57 then (s, 1, (dge (tx (fi 14 23) (ai 24)) 4 s 0).2, (dge (tx (fi 14 23) (ai 24)) 4 s 0).1) else if tx (fi 14 23) (ai 24) s = -1 then (s, -1, v, s) else (s, (if isg (tx (fi 14 23) (ai 24) s) then tx (fi 14 23) (ai 24) s else 0), v, s + 1))) ai aj) (36, [some (.inr (.inr 23)), some (.inl (tx (fi 14 23) (ai 24) s))], [], HH L B1 B2 (tk fi (s, q0, v, s)) ai aj) := by
    intro hc
    have hno2 : ¬ (48 ≤ tx (fi 14 23) (ai 24) s ∧ tx (fi 14 23) (ai 24) s ≤ 57) → am_W (am_ev am_prog (d + 1)) T_To_next (fun w h' => w = none ∧ h' = HH L B1 B2 (tk fi (if tx (fi 14 23) (ai 24) s = -1 then (s, -1, v, s) else (s, (if isg (tx (fi 14 23) (ai 24) s) then tx (fi 14 23) (ai 24) s else 0), v, s + 1))) ai aj) (61, [some (.inr (.inr 23)), some (.inl (tx (fi 14 23) (ai 24) s))], [], HH L B1 B2 (tk fi (s, q0, v, s)) ai aj) := by
      intro hc2
      refine am_W.br rfl rfl (by and_intros <;> first | trivial | exact okI rfl rfl rfl | (refine okrI rfl rfl rfl rfl ?_ ?_ <;> (first | omega | (simp only [HS, FRS, CCS, am_R, TKS] at *; omega))) | (refine okaI rfl rfl rfl rfl ?_ ?_ <;> (first | omega | (simp only [HS, FRS, CCS, am_R, TKS] at *; omega))) | (first | omega | (simp only [HS, FRS, CCS, am_R, TKS] at *; omega))) (fun c1 => ?_) (fun c1 => ?_)
      · rw [if_neg c1]
        refine am_W.cs rfl rfl rfl (by and_intros <;> first | trivial | exact okI rfl rfl rfl | (refine okrI rfl rfl rfl rfl ?_ ?_ <;> (first | omega | (simp only [HS, FRS, CCS, am_R, TKS] at *; omega))) | (refine okaI rfl rfl rfl rfl ?_ ?_ <;> (first | omega | (simp only [HS, FRS, CCS, am_R, TKS] at *; omega))) | (first | omega | (simp only [HS, FRS, CCS, am_R, TKS] at *; omega))) (c_To_isSign d _ _ (by and_intros <;> first | trivial | exact okI rfl rfl rfl | (refine okrI rfl rfl rfl rfl ?_ ?_ <;> (first | omega | (simp only [HS, FRS, CCS, am_R, TKS] at *; omega))) | (refine okaI rfl rfl rfl rfl ?_ ?_ <;> (first | omega | (simp only [HS, FRS, CCS, am_R, TKS] at *; omega))) | (first | omega | (simp only [HS, FRS, CCS, am_R, TKS] at *; omega)))) ?_
        rintro r1 h1 ⟨rfl, rfl⟩
        by_cases hg : isg (tx (fi 14 23) (ai 24) s)
        · rw [if_pos hg, if_pos hg]
          refine am_W.br rfl rfl (by and_intros <;> first | trivial | exact okI rfl rfl rfl | (refine okrI rfl rfl rfl rfl ?_ ?_ <;> (first | omega | (simp only [HS, FRS, CCS, am_R, TKS] at *; omega))) | (refine okaI rfl rfl rfl rfl ?_ ?_ <;> (first | omega | (simp only [HS, FRS, CCS, am_R, TKS] at *; omega))) | (first | omega | (simp only [HS, FRS, CCS, am_R, TKS] at *; omega))) (fun c2 => absurd c2 (by decide)) (fun c2 => ?_)
          refine am_W.rt rfl rfl (by and_intros <;> first | trivial | exact okI rfl rfl rfl | (refine okrI rfl rfl rfl rfl ?_ ?_ <;> (first | omega | (simp only [HS, FRS, CCS, am_R, TKS] at *; omega))) | (refine okaI rfl rfl rfl rfl ?_ ?_ <;> (first | omega | (simp only [HS, FRS, CCS, am_R, TKS] at *; omega))) | (first | omega | (simp only [HS, FRS, CCS, am_R, TKS] at *; omega))) ⟨rfl, ?_⟩
          simp only [HS, TKS, TKU]
        · rw [if_neg hg, if_neg hg]
          refine am_W.br rfl rfl (by and_intros <;> first | trivial | exact okI rfl rfl rfl | (refine okrI rfl rfl rfl rfl ?_ ?_ <;> (first | omega | (simp only [HS, FRS, CCS, am_R, TKS] at *; omega))) | (refine okaI rfl rfl rfl rfl ?_ ?_ <;> (first | omega | (simp only [HS, FRS, CCS, am_R, TKS] at *; omega))) | (first | omega | (simp only [HS, FRS, CCS, am_R, TKS] at *; omega))) (fun c2 => ?_) (fun c2 => absurd rfl c2)
          refine am_W.rt rfl rfl (by and_intros <;> first | trivial | exact okI rfl rfl rfl | (refine okrI rfl rfl rfl rfl ?_ ?_ <;> (first | omega | (simp only [HS, FRS, CCS, am_R, TKS] at *; omega))) | (refine okaI rfl rfl rfl rfl ?_ ?_ <;> (first | omega | (simp only [HS, FRS, CCS, am_R, TKS] at *; omega))) | (first | omega | (simp only [HS, FRS, CCS, am_R, TKS] at *; omega))) ⟨rfl, ?_⟩
          simp only [HS, TKS, TKU]
      · rw [if_pos (by omega)]
        refine am_W.rt rfl rfl (by and_intros <;> first | trivial | exact okI rfl rfl rfl | (refine okrI rfl rfl rfl rfl ?_ ?_ <;> (first | omega | (simp only [HS, FRS, CCS, am_R, TKS] at *; omega))) | (refine okaI rfl rfl rfl rfl ?_ ?_ <;> (first | omega | (simp only [HS, FRS, CCS, am_R, TKS] at *; omega))) | (first | omega | (simp only [HS, FRS, CCS, am_R, TKS] at *; omega))) ⟨rfl, ?_⟩
        simp only [HS, TKS, TKU]
    refine am_W.br rfl rfl (by and_intros <;> first | trivial | exact okI rfl rfl rfl | (refine okrI rfl rfl rfl rfl ?_ ?_ <;> (first | omega | (simp only [HS, FRS, CCS, am_R, TKS] at *; omega))) | (refine okaI rfl rfl rfl rfl ?_ ?_ <;> (first | omega | (simp only [HS, FRS, CCS, am_R, TKS] at *; omega))) | (first | omega | (simp only [HS, FRS, CCS, am_R, TKS] at *; omega))) (fun c1 => ?_) (fun c1 => ?_)
    · rw [if_neg (by omega)]
      exact hno2 (by omega)
    · refine am_W.br rfl rfl (by and_intros <;> first | trivial | exact okI rfl rfl rfl | (refine okrI rfl rfl rfl rfl ?_ ?_ <;> (first | omega | (simp only [HS, FRS, CCS, am_R, TKS] at *; omega))) | (refine okaI rfl rfl rfl rfl ?_ ?_ <;> (first | omega | (simp only [HS, FRS, CCS, am_R, TKS] at *; omega))) | (first | omega | (simp only [HS, FRS, CCS, am_R, TKS] at *; omega))) (fun c2 => ?_) (fun c2 => ?_)
      · rw [if_neg (by omega)]
        exact hno2 (by omega)
      · rw [if_pos (by omega)]
        have eh2 : am_ufi (HH L B1 B2 (tk fi (s, q0, v, s)) ai aj) 17 23 1 = HH L B1 B2 (tk fi (s, 1, v, s)) ai aj := by simp only [HS, TKU]
        refine am_W.cv 3 m_To_takeDigits rfl rfl rfl rfl (by and_intros <;> first | trivial | exact okI rfl rfl rfl | (refine okrI rfl rfl rfl rfl ?_ ?_ <;> (first | omega | (simp only [HS, FRS, CCS, am_R, TKS] at *; omega))) | (refine okaI rfl rfl rfl rfl ?_ ?_ <;> (first | omega | (simp only [HS, FRS, CCS, am_R, TKS] at *; omega))) | (first | omega | (simp only [HS, FRS, CCS, am_R, TKS] at *; omega))) (by rw [eh2]; exact c_To_takeDigits d L B1 B2 fi ai aj s 1 v s hI (by omega) hs.2) ?_
        rintro r1 h1 ⟨rfl, rfl⟩
        exact am_W.rt rfl rfl (by and_intros <;> first | trivial | exact okI rfl rfl rfl | (refine okrI rfl rfl rfl rfl ?_ ?_ <;> (first | omega | (simp only [HS, FRS, CCS, am_R, TKS] at *; omega))) | (refine okaI rfl rfl rfl rfl ?_ ?_ <;> (first | omega | (simp only [HS, FRS, CCS, am_R, TKS] at *; omega))) | (first | omega | (simp only [HS, FRS, CCS, am_R, TKS] at *; omega))) ⟨rfl, rfl⟩
  refine am_W.br rfl rfl (by and_intros <;> first | trivial | exact okI rfl rfl rfl | (refine okrI rfl rfl rfl rfl ?_ ?_ <;> (first | omega | (simp only [HS, FRS, CCS, am_R, TKS] at *; omega))) | (refine okaI rfl rfl rfl rfl ?_ ?_ <;> (first | omega | (simp only [HS, FRS, CCS, am_R, TKS] at *; omega))) | (first | omega | (simp only [HS, FRS, CCS, am_R, TKS] at *; omega))) (fun c1 => ?_) (fun c1 => ?_)
  · rw [if_neg (by omega)]
    exact hno (by omega)
  · refine am_W.br rfl rfl (by and_intros <;> first | trivial | exact okI rfl rfl rfl | (refine okrI rfl rfl rfl rfl ?_ ?_ <;> (first | omega | (simp only [HS, FRS, CCS, am_R, TKS] at *; omega))) | (refine okaI rfl rfl rfl rfl ?_ ?_ <;> (first | omega | (simp only [HS, FRS, CCS, am_R, TKS] at *; omega))) | (first | omega | (simp only [HS, FRS, CCS, am_R, TKS] at *; omega))) (fun c2 => ?_) (fun c2 => ?_)
    · rw [if_neg (by omega)]
      exact hno (by omega)
    · rw [if_pos (by omega)]
      refine am_W.cv 3 m_To_takeWord rfl rfl rfl rfl (by and_intros <;> first | trivial | exact okI rfl rfl rfl | (refine okrI rfl rfl rfl rfl ?_ ?_ <;> (first | omega | (simp only [HS, FRS, CCS, am_R, TKS] at *; omega))) | (refine okaI rfl rfl rfl rfl ?_ ?_ <;> (first | omega | (simp only [HS, FRS, CCS, am_R, TKS] at *; omega))) | (first | omega | (simp only [HS, FRS, CCS, am_R, TKS] at *; omega))) (c_To_takeWord d L B1 B2 fi ai aj s q0 v hI (by omega) hs.2) ?_
      rintro r1 h1 ⟨rfl, rfl⟩
      exact am_W.rt rfl rfl (by and_intros <;> first | trivial | exact okI rfl rfl rfl | (refine okrI rfl rfl rfl rfl ?_ ?_ <;> (first | omega | (simp only [HS, FRS, CCS, am_R, TKS] at *; omega))) | (refine okaI rfl rfl rfl rfl ?_ ?_ <;> (first | omega | (simp only [HS, FRS, CCS, am_R, TKS] at *; omega))) | (first | omega | (simp only [HS, FRS, CCS, am_R, TKS] at *; omega))) ⟨rfl, rfl⟩
