-- the reference's read: the new mappings are kept
def cp6 (a a1 : Nat → Int → Int) (n : Int) : Prop := (∀ b, (b ≠ 132 ∧ b ≠ 137 ∧ b ≠ 138 ∧ b ≠ 139 ∧ b ≠ 140 ∧ b ≠ 141 ∧ b ≠ 142 ∧ b ≠ 143) → a1 b = a b) ∧ ∀ j, 0 ≤ j → j < n → a1 132 j = a 144 j ∧ a1 137 j = a 149 j ∧ a1 138 j = a 150 j ∧ a1 139 j = a 151 j ∧ a1 140 j = a 152 j ∧ a1 141 j = a 153 j ∧ a1 142 j = a 154 j ∧ a1 143 j = a 155 j
theorem cp6_s {a a1 : Nat → Int → Int} {i : Int} (h : cp6 a a1 i) : cp6 a (am_u2 (am_u2 (am_u2 (am_u2 (am_u2 (am_u2 (am_u2 (am_u2 (a1) 132 i (a 144 i)) 137 i (a 149 i)) 138 i (a 150 i)) 139 i (a 151 i)) 140 i (a 152 i)) 141 i (a 153 i)) 142 i (a 154 i)) 143 i (a 155 i)) (i + 1) := by
  refine ⟨fun b hb => ?_, fun j j0 j1 => ?_⟩
  · rw [← h.1 b hb]
    funext k
    rw [u2n (by omega), u2n (by omega), u2n (by omega), u2n (by omega), u2n (by omega), u2n (by omega), u2n (by omega), u2n (by omega)]
  · by_cases hj : j = i
    · subst hj
      refine ⟨?_, ?_, ?_, ?_, ?_, ?_, ?_, ?_⟩
      · rw [u2n (by decide), u2n (by decide), u2n (by decide), u2n (by decide), u2n (by decide), u2n (by decide), u2n (by decide), u2s]
      · rw [u2n (by decide), u2n (by decide), u2n (by decide), u2n (by decide), u2n (by decide), u2n (by decide), u2s]
      · rw [u2n (by decide), u2n (by decide), u2n (by decide), u2n (by decide), u2n (by decide), u2s]
      · rw [u2n (by decide), u2n (by decide), u2n (by decide), u2n (by decide), u2s]
      · rw [u2n (by decide), u2n (by decide), u2n (by decide), u2s]
      · rw [u2n (by decide), u2n (by decide), u2s]
      · rw [u2n (by decide), u2s]
      · rw [u2s]
    · have hh := h.2 j j0 (by omega)
      simp only [u2a hj]
      exact hh
set_option maxHeartbeats 400000 in
set_option maxRecDepth 100000 in
theorem l_read6 (d L B1 B2 : Nat) (fi : Nat → Nat → Int) (ai aj : Nat → Int → Int) (Q : Option am_V → am_H → Prop) (a : Nat → Int → Int) (w : ∀ a1, cp6 a a1 6 → am_W (am_ev am_prog d) T_Mo_read Q (191, [some (.inr (.inr 126)), some (.inl 6)], [], HH L B1 B2 fi a1 aj)) : ∀ (k : Nat) (i : Int) (a1 : Nat → Int → Int), i + (k : Int) = 6 → 0 ≤ i → cp6 a a1 i → am_W (am_ev am_prog d) T_Mo_read Q (83, [some (.inr (.inr 126)), some (.inl i)], [], HH L B1 B2 fi a1 aj)
  | 0, i, a1, hk, hi, hc => by
    have hi6 : i = 6 := by omega
    subst hi6
    exact am_W.br rfl rfl (by and_intros <;> first | trivial | exact okI rfl rfl rfl | (refine okrI rfl rfl rfl rfl ?_ ?_ <;> (first | omega | (simp only [HS, FRS, CCS, am_R] at *; omega))) | (refine okaI rfl rfl rfl rfl ?_ ?_ <;> (first | omega | (simp only [HS, FRS, CCS, am_R] at *; omega))) | (first | omega | (simp only [HS, FRS, CCS, am_R] at *; omega)) | (simp only [HS, FRS, CCS])) (fun c1 => w a1 hc) (fun c1 => absurd c1 (by decide))
  | k + 1, i, a1, hk, hi, hc => by
    refine am_W.br rfl rfl (by and_intros <;> first | trivial | exact okI rfl rfl rfl | (refine okrI rfl rfl rfl rfl ?_ ?_ <;> (first | omega | (simp only [HS, FRS, CCS, am_R] at *; omega))) | (refine okaI rfl rfl rfl rfl ?_ ?_ <;> (first | omega | (simp only [HS, FRS, CCS, am_R] at *; omega))) | (first | omega | (simp only [HS, FRS, CCS, am_R] at *; omega)) | (simp only [HS, FRS, CCS])) (fun c1 => absurd c1 (by omega)) (fun c1 => ?_)
    refine am_W.gp 83 rfl (by and_intros <;> first | trivial | exact okI rfl rfl rfl | (refine okrI rfl rfl rfl rfl ?_ ?_ <;> (first | omega | (simp only [HS, FRS, CCS, am_R] at *; omega))) | (refine okaI rfl rfl rfl rfl ?_ ?_ <;> (first | omega | (simp only [HS, FRS, CCS, am_R] at *; omega))) | (first | omega | (simp only [HS, FRS, CCS, am_R] at *; omega)) | (simp only [HS, FRS, CCS])) ?_
    simp only [HS, FRS]
    have hs := cp6_s hc
    rw [← show a1 144 = a 144 from hc.1 144 (by decide), ← show a1 149 = a 149 from hc.1 149 (by decide), ← show a1 150 = a 150 from hc.1 150 (by decide), ← show a1 151 = a 151 from hc.1 151 (by decide), ← show a1 152 = a 152 from hc.1 152 (by decide), ← show a1 153 = a 153 from hc.1 153 (by decide), ← show a1 154 = a 154 from hc.1 154 (by decide), ← show a1 155 = a 155 from hc.1 155 (by decide)] at hs
    have := l_read6 d L B1 B2 fi ai aj Q a w k (i + 1) _ (by omega) (by omega) hs
    exact this
def cp18 (a a1 : Nat → Int → Int) (n : Int) : Prop := (∀ b, (b ≠ 133 ∧ b ≠ 134 ∧ b ≠ 135) → a1 b = a b) ∧ ∀ j, 0 ≤ j → j < n → a1 133 j = a 145 j ∧ a1 134 j = a 146 j ∧ a1 135 j = a 147 j
theorem cp18_s {a a1 : Nat → Int → Int} {i : Int} (h : cp18 a a1 i) : cp18 a (am_u2 (am_u2 (am_u2 (a1) 133 i (a 145 i)) 134 i (a 146 i)) 135 i (a 147 i)) (i + 1) := by
  refine ⟨fun b hb => ?_, fun j j0 j1 => ?_⟩
  · rw [← h.1 b hb]
    funext k
    rw [u2n (by omega), u2n (by omega), u2n (by omega)]
  · by_cases hj : j = i
    · subst hj
      refine ⟨?_, ?_, ?_⟩
      · rw [u2n (by decide), u2n (by decide), u2s]
      · rw [u2n (by decide), u2s]
      · rw [u2s]
    · have hh := h.2 j j0 (by omega)
      simp only [u2a hj]
      exact hh
set_option maxHeartbeats 400000 in
set_option maxRecDepth 100000 in
theorem l_read18 (d L B1 B2 : Nat) (fi : Nat → Nat → Int) (ai aj : Nat → Int → Int) (Q : Option am_V → am_H → Prop) (a : Nat → Int → Int) (w : ∀ a1, cp18 a a1 18 → am_W (am_ev am_prog d) T_Mo_read Q (241, [some (.inr (.inr 126)), some (.inl 18)], [], HH L B1 B2 fi a1 aj)) : ∀ (k : Nat) (i : Int) (a1 : Nat → Int → Int), i + (k : Int) = 18 → 0 ≤ i → cp18 a a1 i → am_W (am_ev am_prog d) T_Mo_read Q (193, [some (.inr (.inr 126)), some (.inl i)], [], HH L B1 B2 fi a1 aj)
  | 0, i, a1, hk, hi, hc => by
    have hi6 : i = 18 := by omega
    subst hi6
    exact am_W.br rfl rfl (by and_intros <;> first | trivial | exact okI rfl rfl rfl | (refine okrI rfl rfl rfl rfl ?_ ?_ <;> (first | omega | (simp only [HS, FRS, CCS, am_R] at *; omega))) | (refine okaI rfl rfl rfl rfl ?_ ?_ <;> (first | omega | (simp only [HS, FRS, CCS, am_R] at *; omega))) | (first | omega | (simp only [HS, FRS, CCS, am_R] at *; omega)) | (simp only [HS, FRS, CCS])) (fun c1 => w a1 hc) (fun c1 => absurd c1 (by decide))
  | k + 1, i, a1, hk, hi, hc => by
    refine am_W.br rfl rfl (by and_intros <;> first | trivial | exact okI rfl rfl rfl | (refine okrI rfl rfl rfl rfl ?_ ?_ <;> (first | omega | (simp only [HS, FRS, CCS, am_R] at *; omega))) | (refine okaI rfl rfl rfl rfl ?_ ?_ <;> (first | omega | (simp only [HS, FRS, CCS, am_R] at *; omega))) | (first | omega | (simp only [HS, FRS, CCS, am_R] at *; omega)) | (simp only [HS, FRS, CCS])) (fun c1 => absurd c1 (by omega)) (fun c1 => ?_)
    refine am_W.gp 193 rfl (by and_intros <;> first | trivial | exact okI rfl rfl rfl | (refine okrI rfl rfl rfl rfl ?_ ?_ <;> (first | omega | (simp only [HS, FRS, CCS, am_R] at *; omega))) | (refine okaI rfl rfl rfl rfl ?_ ?_ <;> (first | omega | (simp only [HS, FRS, CCS, am_R] at *; omega))) | (first | omega | (simp only [HS, FRS, CCS, am_R] at *; omega)) | (simp only [HS, FRS, CCS])) ?_
    simp only [HS, FRS]
    have hs := cp18_s hc
    rw [← show a1 145 = a 145 from hc.1 145 (by decide), ← show a1 146 = a 146 from hc.1 146 (by decide), ← show a1 147 = a 147 from hc.1 147 (by decide)] at hs
    have := l_read18 d L B1 B2 fi ai aj Q a w k (i + 1) _ (by omega) (by omega) hs
    exact this
def cp540 (a a1 : Nat → Int → Int) (n : Int) : Prop := (∀ b, (b ≠ 136) → a1 b = a b) ∧ ∀ j, 0 ≤ j → j < n → a1 136 j = a 148 j
theorem cp540_s {a a1 : Nat → Int → Int} {i : Int} (h : cp540 a a1 i) : cp540 a (am_u2 (a1) 136 i (a 148 i)) (i + 1) := by
  refine ⟨fun b hb => ?_, fun j j0 j1 => ?_⟩
  · rw [← h.1 b hb]
    funext k
    rw [u2n (by omega)]
  · by_cases hj : j = i
    · subst hj
      rw [u2s]
    · have hh := h.2 j j0 (by omega)
      simp only [u2a hj]
      exact hh
set_option maxHeartbeats 400000 in
set_option maxRecDepth 100000 in
theorem l_read540 (d L B1 B2 : Nat) (fi : Nat → Nat → Int) (ai aj : Nat → Int → Int) (Q : Option am_V → am_H → Prop) (a : Nat → Int → Int) (w : ∀ a1, cp540 a a1 540 → am_W (am_ev am_prog d) T_Mo_read Q (268, [some (.inr (.inr 126)), some (.inl 540)], [], HH L B1 B2 fi a1 aj)) : ∀ (k : Nat) (i : Int) (a1 : Nat → Int → Int), i + (k : Int) = 540 → 0 ≤ i → cp540 a a1 i → am_W (am_ev am_prog d) T_Mo_read Q (243, [some (.inr (.inr 126)), some (.inl i)], [], HH L B1 B2 fi a1 aj)
  | 0, i, a1, hk, hi, hc => by
    have hi6 : i = 540 := by omega
    subst hi6
    exact am_W.br rfl rfl (by and_intros <;> first | trivial | exact okI rfl rfl rfl | (refine okrI rfl rfl rfl rfl ?_ ?_ <;> (first | omega | (simp only [HS, FRS, CCS, am_R] at *; omega))) | (refine okaI rfl rfl rfl rfl ?_ ?_ <;> (first | omega | (simp only [HS, FRS, CCS, am_R] at *; omega))) | (first | omega | (simp only [HS, FRS, CCS, am_R] at *; omega)) | (simp only [HS, FRS, CCS])) (fun c1 => w a1 hc) (fun c1 => absurd c1 (by decide))
  | k + 1, i, a1, hk, hi, hc => by
    refine am_W.br rfl rfl (by and_intros <;> first | trivial | exact okI rfl rfl rfl | (refine okrI rfl rfl rfl rfl ?_ ?_ <;> (first | omega | (simp only [HS, FRS, CCS, am_R] at *; omega))) | (refine okaI rfl rfl rfl rfl ?_ ?_ <;> (first | omega | (simp only [HS, FRS, CCS, am_R] at *; omega))) | (first | omega | (simp only [HS, FRS, CCS, am_R] at *; omega)) | (simp only [HS, FRS, CCS])) (fun c1 => absurd c1 (by omega)) (fun c1 => ?_)
    refine am_W.gp 243 rfl (by and_intros <;> first | trivial | exact okI rfl rfl rfl | (refine okrI rfl rfl rfl rfl ?_ ?_ <;> (first | omega | (simp only [HS, FRS, CCS, am_R] at *; omega))) | (refine okaI rfl rfl rfl rfl ?_ ?_ <;> (first | omega | (simp only [HS, FRS, CCS, am_R] at *; omega))) | (first | omega | (simp only [HS, FRS, CCS, am_R] at *; omega)) | (simp only [HS, FRS, CCS])) ?_
    simp only [HS, FRS]
    have hs := cp540_s hc
    rw [← show a1 148 = a 148 from hc.1 148 (by decide)] at hs
    have := l_read540 d L B1 B2 fi ai aj Q a w k (i + 1) _ (by omega) (by omega) hs
    exact this
