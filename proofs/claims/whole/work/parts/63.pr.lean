-- printing: bytes that are put one behind the other
def wr (T : Int → Int) (l : List Int) : Int → Int := fun i => if 0 ≤ i ∧ i < (l.length : Int) then l.getD i.toNat 0 else T i
theorem wr_n (T : Int → Int) : wr T [] = T := by
  funext i
  exact if_neg (by show ¬ (0 ≤ i ∧ i < ((0 : Nat) : Int)); omega)
theorem wr_s (T : Int → Int) (l : List Int) (x : Int) : up (wr T l) (l.length : Int) x = wr T (l ++ [x]) := by
  funext i
  unfold up wr
  rw [List.length_append, List.length_singleton, getD_app]
  by_cases h : i = (l.length : Int)
  · rw [if_pos h, if_pos (by omega), if_neg (by omega), if_pos (by omega)]
  · rw [if_neg h]
    by_cases h2 : 0 ≤ i ∧ i < (l.length : Int)
    · rw [if_pos h2, if_pos (by omega), if_pos (by omega)]
    · rw [if_neg h2, if_neg (by omega)]
def dgs (v : Int) : List Int := (if 1000 ≤ v then [48 + v / 1000 % 10] else []) ++ ((if 100 ≤ v then [48 + v / 100 % 10] else []) ++ ((if 10 ≤ v then [48 + v / 10 % 10] else []) ++ [48 + v % 10]))
def prC (p : Int) : List Int := if p < 4 then [123] ++ (dgs p ++ [125]) else if esc p then [92, p] else [p]
def prL : List Int → List Int
  | [] => []
  | p :: r => prC p ++ prL r
def prP (x : PT) : List Int := if x.1 = 0 then [34] ++ (prL x.2.2 ++ [34, 32]) else [if x.1 = 1 then 95 else 36] ++ (dgs x.2.1 ++ [32])
def prJ (j : JT) : List Int := if j.1 = -1 then [] else [111, 102, 32] ++ (dgs j.1 ++ ([32] ++ ([98, 121, 32] ++ (dgs j.2.1 ++ ([32] ++ (dgs j.2.2 ++ [32]))))))
def prT (c : JT) : List Int := if c.1 = -1 then [] else [105, 102, 32] ++ ((if c.1 = 1853189228 then [110, 117, 108, 108, 32] else []) ++ ([36] ++ (dgs c.2.1 ++ ([32] ++ (if c.1 = 1853189228 then [] else [c.1, 32] ++ (dgs c.2.2 ++ [32]))))))
def prG (g : Int) : List Int := if g = -1 then [] else [105, 110, 32] ++ (dgs g ++ [32])
def prM (x : MT) : List Int := [109, 97, 112, 32] ++ (dgs x.1 ++ ([32] ++ ([58, 32] ++ (prP x.2.1 ++ (prP x.2.2.1 ++ (prP x.2.2.2.1 ++ (prJ x.2.2.2.2.1 ++ (prT x.2.2.2.2.2.1 ++ (prG x.2.2.2.2.2.2 ++ [46, 10])))))))))
/-- the class's heap with these bytes printed -/
def HP (L B1 B2 : Nat) (fi : Nat → Nat → Int) (ai aj : Nat → Int → Int) (l : List Int) : am_H := HH L B1 B2 (am_u2 fi 36 36 (l.length : Int)) (am_sa ai 37 (wr (ai 37) l)) aj
theorem HPS : (∀ L B1 B2 fi ai aj l, am_n (HP L B1 B2 fi ai aj l) = 170) ∧ (∀ L B1 B2 fi ai aj l, am_c (HP L B1 B2 fi ai aj l) = CC L) ∧ (∀ L B1 B2 fi ai aj l, am_fi (HP L B1 B2 fi ai aj l) 36 36 = (l.length : Int)) ∧ (∀ L B1 B2 fi ai aj l, am_fr (HP L B1 B2 fi ai aj l) = FRR B1 B2) := ⟨fun _ _ _ _ _ _ _ => rfl, fun _ _ _ _ _ _ _ => rfl, fun _ _ _ _ _ _ _ => rfl, fun _ _ _ _ _ _ _ => rfl⟩
set_option maxHeartbeats 400000 in
set_option maxRecDepth 100000 in
theorem c_Pr_put (d L B1 B2 : Nat) (fi : Nat → Nat → Int) (ai aj : Nat → Int → Int) (l : List Int) (b : Int) (hl : l.length < 626) : am_M am_prog (d + 1) m_Pr_put [.inr (.inr 36), .inl b] (HP L B1 B2 fi ai aj l) (fun w h' => w = none ∧ h' = HP L B1 B2 fi ai aj (l ++ [b])) := by
  unfold HP
  generalize hn : (l.length : Int) = n
  generalize hT : wr (ai 37) l = T
  have hn2 : 0 ≤ n ∧ n < 626 := by omega
  have u36 : am_u2 fi 36 36 n 36 36 = n := u2s
  refine am_W.of rfl rfl ?_
  refine am_W.br rfl rfl (by simp only [HS, u36]; exact (by and_intros <;> first | trivial | exact okI rfl rfl rfl | (refine okrI rfl rfl rfl rfl ?_ ?_ <;> (first | omega | (simp only [HS, FRS, CCS, am_R, HPS] at *; omega))) | (refine okaI rfl rfl rfl rfl ?_ ?_ <;> (first | omega | (simp only [HS, FRS, CCS, am_R, HPS] at *; omega))) | (first | omega | (simp only [HS, FRS, CCS, am_R, HPS] at *; omega)) | (simp only [HS, FRS, CCS, HPS]))) (fun c1 => absurd c1 (by simp only [HS, u36]; omega)) (fun c1 => ?_)
  refine am_W.rt rfl rfl (by simp only [HS, FRS, u36]; exact (by and_intros <;> first | trivial | exact okI rfl rfl rfl | (refine okrI rfl rfl rfl rfl ?_ ?_ <;> (first | omega | (simp only [HS, FRS, CCS, am_R, HPS] at *; omega))) | (refine okaI rfl rfl rfl rfl ?_ ?_ <;> (first | omega | (simp only [HS, FRS, CCS, am_R, HPS] at *; omega))) | (first | omega | (simp only [HS, FRS, CCS, am_R, HPS] at *; omega)) | (simp only [HS, FRS, CCS, HPS]))) ⟨rfl, ?_⟩
  simp only [HS, FRS, u2s, u2u, u2sa]
  rw [← hT, ← hn, wr_s, List.length_append, List.length_singleton]
  rfl
-- numbers, by whatever puts bytes
set_option maxHeartbeats 400000 in
set_option maxRecDepth 100000 in
theorem c_putNumber (d r ci md : Nat) (Hs : List Int → am_H) (N : Nat) (hr : 16 ≤ r) (hok : ∀ l, am_ok (Hs l) r ci) (hc : (ci = 5 ∧ md = m_Te_put) ∨ (ci = 6 ∧ md = m_Pr_put)) (hput : ∀ l b, l.length < N → 48 ≤ b → b ≤ 57 → am_M am_prog (d + 1) md [.inr (.inr r), .inl b] (Hs l) (fun w h' => w = none ∧ h' = Hs (l ++ [b]))) (l : List Int) (v : Int) (hv : 0 ≤ v ∧ v ≤ 9999) (hl : l.length + (dgs v).length ≤ N) : am_M am_prog (d + 2) m_Si_putNumber [.inr (.inr r), .inl v] (Hs l) (fun w h' => w = none ∧ h' = Hs (l ++ dgs v)) := by
  have e1 : ∀ k : Int, v.tdiv k = v / k := fun k => Int.tdiv_eq_ediv_of_nonneg hv.1
  have e2 : ∀ x : Int, 0 ≤ x → x.tmod 10 = x % 10 := fun x hx => Int.tmod_eq_emod_of_nonneg hx
  have a3 : 0 ≤ v / 1000 ∧ v / 1000 ≤ 9 := by omega
  have a2 : 0 ≤ v / 100 ∧ v / 100 ≤ 99 := by omega
  have a1 : 0 ≤ v / 10 ∧ v / 10 ≤ 999 := by omega
  have h62 : ∀ l1 : List Int, l1.length + [48 + v % 10].length ≤ N → am_W (am_ev am_prog (d + 1)) T_Si_putNumber (fun w h' => w = none ∧ h' = Hs (l1 ++ [48 + v % 10])) (62, [some (.inr (.inr r)), some (.inl v)], [], Hs l1) := by
    intro l1 h1
    rw [List.length_singleton] at h1
    have hp := hput l1 (48 + v % 10) (by omega) (by omega) (by omega)
    rw [← e2 v hv.1] at hp ⊢
    rcases hc with ⟨rfl, rfl⟩ | ⟨rfl, rfl⟩
    · refine am_W.cv 5 m_Te_put rfl rfl rfl rfl ⟨⟨trivial, ⟨by omega, by omega⟩, ⟨by omega, by omega⟩, by decide⟩, hok l1⟩ hp ?_
      rintro r1 h1 ⟨rfl, rfl⟩
      exact am_W.rt rfl rfl ⟨trivial, trivial⟩ ⟨rfl, rfl⟩
    · refine am_W.cv 6 m_Pr_put rfl rfl rfl rfl ⟨⟨trivial, ⟨by omega, by omega⟩, ⟨by omega, by omega⟩, by decide⟩, hok l1⟩ hp ?_
      rintro r1 h1 ⟨rfl, rfl⟩
      exact am_W.rt rfl rfl ⟨trivial, trivial⟩ ⟨rfl, rfl⟩
  have hst : ∀ (l1 : List Int) (x : Int) (rest : List Int) (pc : Nat), True := fun _ _ _ _ => trivial
  have h42 : ∀ l1 : List Int, l1.length + ((if 10 ≤ v then [48 + v / 10 % 10] else []) ++ [48 + v % 10]).length ≤ N → am_W (am_ev am_prog (d + 1)) T_Si_putNumber (fun w h' => w = none ∧ h' = Hs (l1 ++ ((if 10 ≤ v then [48 + v / 10 % 10] else []) ++ [48 + v % 10]))) (42, [some (.inr (.inr r)), some (.inl v)], [], Hs l1) := by
    intro l1 h1
    by_cases hq : 10 ≤ v
    · rw [if_pos hq] at h1 ⊢
      rw [List.length_append, List.length_singleton] at h1
      have hp := hput l1 (48 + v / 10 % 10) (by omega) (by omega) (by omega)
      have hw := h62 (l1 ++ [48 + v / 10 % 10]) (by rw [List.length_append]; exact (by omega))
      rw [List.append_assoc] at hw
      refine am_W.br rfl rfl ⟨trivial, ⟨by omega, by omega⟩, ⟨by omega, by omega⟩⟩ (fun c1 => absurd c1 (by omega)) (fun c1 => ?_)
      rw [← e2 _ a1.1, ← e1 10] at hp
      rw [← e2 _ a1.1, ← e1 10] at hw
      rw [← e2 _ a1.1, ← e1 10]
      rcases hc with ⟨rfl, rfl⟩ | ⟨rfl, rfl⟩
      · refine am_W.cv 5 m_Te_put rfl rfl rfl rfl ?_ hp ?_
        · rw [e1]
          exact ⟨⟨⟨trivial, ⟨by omega, by omega⟩, ⟨by omega, by omega⟩, by decide⟩, ⟨by omega, by omega⟩, ⟨by omega, by omega⟩, by decide⟩, hok l1⟩
        · rintro r1 h1 ⟨rfl, rfl⟩
          exact hw
      · refine am_W.cv 6 m_Pr_put rfl rfl rfl rfl ?_ hp ?_
        · rw [e1]
          exact ⟨⟨⟨trivial, ⟨by omega, by omega⟩, ⟨by omega, by omega⟩, by decide⟩, ⟨by omega, by omega⟩, ⟨by omega, by omega⟩, by decide⟩, hok l1⟩
        · rintro r1 h1 ⟨rfl, rfl⟩
          exact hw
    · rw [if_neg hq, List.nil_append] at h1 ⊢
      exact am_W.br rfl rfl ⟨trivial, ⟨by omega, by omega⟩, ⟨by omega, by omega⟩⟩ (fun c1 => h62 l1 h1) (fun c1 => absurd c1 (by omega))
  have h22 : ∀ l1 : List Int, l1.length + ((if 100 ≤ v then [48 + v / 100 % 10] else []) ++ ((if 10 ≤ v then [48 + v / 10 % 10] else []) ++ [48 + v % 10])).length ≤ N → am_W (am_ev am_prog (d + 1)) T_Si_putNumber (fun w h' => w = none ∧ h' = Hs (l1 ++ ((if 100 ≤ v then [48 + v / 100 % 10] else []) ++ ((if 10 ≤ v then [48 + v / 10 % 10] else []) ++ [48 + v % 10])))) (22, [some (.inr (.inr r)), some (.inl v)], [], Hs l1) := by
    intro l1 h1
    by_cases hq : 100 ≤ v
    · rw [if_pos hq] at h1 ⊢
      rw [List.length_append, List.length_singleton] at h1
      have hp := hput l1 (48 + v / 100 % 10) (by omega) (by omega) (by omega)
      have hw := h42 (l1 ++ [48 + v / 100 % 10]) (by rw [List.length_append, List.length_singleton]; omega)
      rw [List.append_assoc] at hw
      refine am_W.br rfl rfl ⟨trivial, ⟨by omega, by omega⟩, ⟨by omega, by omega⟩⟩ (fun c1 => absurd c1 (by omega)) (fun c1 => ?_)
      rw [← e2 _ a2.1, ← e1 100] at hp
      rw [← e2 _ a2.1, ← e1 100] at hw
      rw [← e2 _ a2.1, ← e1 100]
      rcases hc with ⟨rfl, rfl⟩ | ⟨rfl, rfl⟩
      · refine am_W.cv 5 m_Te_put rfl rfl rfl rfl ?_ hp ?_
        · rw [e1]
          exact ⟨⟨⟨trivial, ⟨by omega, by omega⟩, ⟨by omega, by omega⟩, by decide⟩, ⟨by omega, by omega⟩, ⟨by omega, by omega⟩, by decide⟩, hok l1⟩
        · rintro r1 h1 ⟨rfl, rfl⟩
          exact hw
      · refine am_W.cv 6 m_Pr_put rfl rfl rfl rfl ?_ hp ?_
        · rw [e1]
          exact ⟨⟨⟨trivial, ⟨by omega, by omega⟩, ⟨by omega, by omega⟩, by decide⟩, ⟨by omega, by omega⟩, ⟨by omega, by omega⟩, by decide⟩, hok l1⟩
        · rintro r1 h1 ⟨rfl, rfl⟩
          exact hw
    · rw [if_neg hq, List.nil_append] at h1 ⊢
      exact am_W.br rfl rfl ⟨trivial, ⟨by omega, by omega⟩, ⟨by omega, by omega⟩⟩ (fun c1 => h42 l1 h1) (fun c1 => absurd c1 (by omega))
  refine am_W.of rfl rfl ?_
  unfold dgs at hl ⊢
  by_cases hq : 1000 ≤ v
  · rw [if_pos hq] at hl ⊢
    rw [List.length_append, List.length_singleton] at hl
    have hp := hput l (48 + v / 1000 % 10) (by omega) (by omega) (by omega)
    have hw := h22 (l ++ [48 + v / 1000 % 10]) (by rw [List.length_append, List.length_singleton]; omega)
    rw [List.append_assoc] at hw
    refine am_W.br rfl rfl ⟨trivial, ⟨by omega, by omega⟩, ⟨by omega, by omega⟩⟩ (fun c1 => absurd c1 (by omega)) (fun c1 => ?_)
    rw [← e2 _ a3.1, ← e1 1000] at hp
    rw [← e2 _ a3.1, ← e1 1000] at hw
    rw [← e2 _ a3.1, ← e1 1000]
    rcases hc with ⟨rfl, rfl⟩ | ⟨rfl, rfl⟩
    · refine am_W.cv 5 m_Te_put rfl rfl rfl rfl ?_ hp ?_
      · rw [e1]
        exact ⟨⟨⟨trivial, ⟨by omega, by omega⟩, ⟨by omega, by omega⟩, by decide⟩, ⟨by omega, by omega⟩, ⟨by omega, by omega⟩, by decide⟩, hok l⟩
      · rintro r1 h1 ⟨rfl, rfl⟩
        exact hw
    · refine am_W.cv 6 m_Pr_put rfl rfl rfl rfl ?_ hp ?_
      · rw [e1]
        exact ⟨⟨⟨trivial, ⟨by omega, by omega⟩, ⟨by omega, by omega⟩, by decide⟩, ⟨by omega, by omega⟩, ⟨by omega, by omega⟩, by decide⟩, hok l⟩
      · rintro r1 h1 ⟨rfl, rfl⟩
        exact hw
  · rw [if_neg hq, List.nil_append] at hl ⊢
    exact am_W.br rfl rfl ⟨trivial, ⟨by omega, by omega⟩, ⟨by omega, by omega⟩⟩ (fun c1 => h22 l hl) (fun c1 => absurd c1 (by omega))
