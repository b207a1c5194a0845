-- the reference: keepOld, differences
def kR1 (A a : Nat → Int → Int) (k : Int) : Prop := (∀ b, b ≠ 164 → a b = A b) ∧ (∀ i, 0 ≤ i → i < k → a 164 i = A 156 i)
def kR2 (A a : Nat → Int → Int) (k : Int) : Prop := (∀ b, b ≠ 165 → b ≠ 166 → a b = A b) ∧ (∀ i, 0 ≤ i → i < k → a 165 i = A 157 i ∧ a 166 i = A 158 i)
def kR3 (A a : Nat → Int → Int) (k : Int) : Prop := (∀ b, b ≠ 167 → b ≠ 168 → a b = A b) ∧ (∀ i, 0 ≤ i → i < k → a 167 i = A 159 i ∧ a 168 i = A 163 i)
theorem kR1_s {A a : Nat → Int → Int} {k : Int} (h : kR1 A a k) : kR1 A (am_sa a 164 (up (a 164) k (a 156 k))) (k + 1) := by
  refine ⟨fun b hb => by rw [san _ _ hb, h.1 b hb], fun i h0 h1 => ?_⟩
  rw [sas]
  by_cases e : i = k
  · rw [e, up_s, h.1 156 (by decide)]
  · rw [up_n _ _ e, h.2 i h0 (by omega)]
theorem kR2_s {A a : Nat → Int → Int} {k : Int} (h : kR2 A a k) : kR2 A (am_sa (am_sa a 165 (up (a 165) k (a 157 k))) 166 (up (a 166) k (a 158 k))) (k + 1) := by
  refine ⟨fun b hb hb2 => by rw [san _ _ hb2, san _ _ hb, h.1 b hb hb2], fun i h0 h1 => ?_⟩
  rw [sas, san _ _ (show (165 : Nat) ≠ 166 by decide), sas]
  by_cases e : i = k
  · rw [e, up_s, up_s, h.1 157 (by decide) (by decide), h.1 158 (by decide) (by decide)]
    exact ⟨rfl, rfl⟩
  · rw [up_n _ _ e, up_n _ _ e]
    exact h.2 i h0 (by omega)
theorem kR3_s {A a : Nat → Int → Int} {k : Int} (h : kR3 A a k) : kR3 A (am_sa (am_sa a 167 (up (a 167) k (a 159 k))) 168 (up (a 168) k (a 163 k))) (k + 1) := by
  refine ⟨fun b hb hb2 => by rw [san _ _ hb2, san _ _ hb, h.1 b hb hb2], fun i h0 h1 => ?_⟩
  rw [sas, san _ _ (show (167 : Nat) ≠ 168 by decide), sas]
  by_cases e : i = k
  · rw [e, up_s, up_s, h.1 159 (by decide) (by decide), h.1 163 (by decide) (by decide)]
    exact ⟨rfl, rfl⟩
  · rw [up_n _ _ e, up_n _ _ e]
    exact h.2 i h0 (by omega)
def kep (A a : Nat → Int → Int) (G : Int) : Prop := (∀ b, b < 164 ∨ 168 < b → a b = A b) ∧ (∀ i, 0 ≤ i → i < 60 * G → a 164 i = A 156 i) ∧ (∀ i, 0 ≤ i → i < 3 * G → a 165 i = A 157 i ∧ a 166 i = A 158 i) ∧ (∀ i, 0 ≤ i → i < G → a 167 i = A 159 i ∧ a 168 i = A 163 i)
set_option maxHeartbeats 400000 in
set_option maxRecDepth 100000 in
theorem c_keepOld (d L B1 B2 : Nat) (fi : Nat → Nat → Int) (ai aj : Nat → Int → Int) (G : Int) (hG : fi 94 126 = G) (hG2 : 0 ≤ G ∧ G ≤ 1536) (hb : byR ai) : am_M am_prog (d + 1) m_Mo_keepOld [.inr (.inr 126)] (HH L B1 B2 fi ai aj) (fun v h' => v = none ∧ ∃ a', h' = HH L B1 B2 (am_u2 fi 103 126 G) a' aj ∧ kep ai a' G) := by
  generalize hF : am_u2 fi 103 126 G = F
  have hFG : F 94 126 = G := by rw [← hF]; exact (u2n (by decide)).trans hG
  have hl3 : ∀ (n : Nat) (k : Int) (A a : Nat → Int → Int), k + n = G → 0 ≤ k → kR3 A a k → (∀ a', kR3 A a' G → kep ai a' G) → am_W (am_ev am_prog d) T_Mo_keepOld (fun v h' => v = none ∧ ∃ a', h' = HH L B1 B2 F a' aj ∧ kep ai a' G) (83, [some (.inr (.inr 126)), some (.inl k)], [], HH L B1 B2 F a aj) := by
    intro n
    induction n with
    | zero =>
      intro k A a hk h0 hR w
      have eG : am_fi (HH L B1 B2 F a aj) 94 126 = G := hFG
      refine am_W.br rfl rfl ⟨⟨trivial, okI rfl rfl rfl⟩, ⟨by omega, by omega⟩, by rw [eG]; exact ⟨by omega, by omega⟩⟩ (fun z => ?_) (fun z => absurd (by rw [eG]; omega) z)
      refine am_W.rt rfl rfl ⟨trivial, trivial⟩ ⟨rfl, a, rfl, w a ?_⟩
      rw [show G = k by omega]
      exact hR
    | succ n ih =>
      intro k A a hk h0 hR w
      have eG : am_fi (HH L B1 B2 F a aj) 94 126 = G := hFG
      refine am_W.br rfl rfl ⟨⟨trivial, okI rfl rfl rfl⟩, ⟨by omega, by omega⟩, by rw [eG]; exact ⟨by omega, by omega⟩⟩ (fun z => absurd z (by rw [eG]; omega)) (fun z => ?_)
      refine am_W.gp 83 rfl ?_ ?_
      · simp only [HS, FRS]
        exact (by and_intros <;> first | trivial | exact okI rfl rfl rfl | (refine okrI rfl rfl rfl rfl ?_ ?_ <;> (first | omega | (simp only [HS, FRS, CCS, am_R] at *; omega))) | (refine okaI rfl rfl rfl rfl ?_ ?_ <;> (first | omega | (simp only [HS, FRS, CCS, am_R] at *; omega))) | (first | omega | (simp only [HS, FRS, CCS, am_R] at *; omega)) | (simp only [HS, FRS, CCS]))
      · simp only [HS, FRS]
        rw [u2_sa, u2_sa, san _ _ (show (163 : Nat) ≠ 167 by decide), san _ _ (show (168 : Nat) ≠ 167 by decide)]
        exact ih (k + 1) A _ (by omega) (by omega) (kR3_s hR) w
  have hl2 : ∀ (n : Nat) (k : Int) (A a : Nat → Int → Int), k + n = 3 * G → 0 ≤ k → kR2 A a k → (∀ a' a'', kR2 A a' (3 * G) → kR3 a' a'' G → kep ai a'' G) → am_W (am_ev am_prog d) T_Mo_keepOld (fun v h' => v = none ∧ ∃ a', h' = HH L B1 B2 F a' aj ∧ kep ai a' G) (41, [some (.inr (.inr 126)), some (.inl k)], [], HH L B1 B2 F a aj) := by
    intro n
    induction n with
    | zero =>
      intro k A a hk h0 hR w
      have eG : am_fi (HH L B1 B2 F a aj) 94 126 = G := hFG
      refine am_W.br rfl rfl ⟨⟨trivial, okI rfl rfl rfl⟩, ⟨by omega, by omega⟩, by rw [eG]; exact ⟨by omega, by omega⟩⟩ (fun z => ?_) (fun z => absurd (by rw [eG]; omega) z)
      refine am_W.gp 83 rfl trivial ?_
      refine hl3 G.toNat 0 a a (by omega) (Int.le_refl 0) ⟨fun _ _ _ => rfl, fun i h0 h1 => absurd h1 (by omega)⟩ (fun a' h => w a a' ?_ h)
      rw [show 3 * G = k by omega]
      exact hR
    | succ n ih =>
      intro k A a hk h0 hR w
      have eG : am_fi (HH L B1 B2 F a aj) 94 126 = G := hFG
      refine am_W.br rfl rfl ⟨⟨trivial, okI rfl rfl rfl⟩, ⟨by omega, by omega⟩, by rw [eG]; exact ⟨by omega, by omega⟩⟩ (fun z => absurd z (by rw [eG]; omega)) (fun z => ?_)
      refine am_W.gp 41 rfl ?_ ?_
      · simp only [HS, FRS]
        exact (by and_intros <;> first | trivial | exact okI rfl rfl rfl | (refine okrI rfl rfl rfl rfl ?_ ?_ <;> (first | omega | (simp only [HS, FRS, CCS, am_R] at *; omega))) | (refine okaI rfl rfl rfl rfl ?_ ?_ <;> (first | omega | (simp only [HS, FRS, CCS, am_R] at *; omega))) | (first | omega | (simp only [HS, FRS, CCS, am_R] at *; omega)) | (simp only [HS, FRS, CCS]))
      · simp only [HS, FRS]
        rw [u2_sa, u2_sa, san _ _ (show (158 : Nat) ≠ 165 by decide), san _ _ (show (166 : Nat) ≠ 165 by decide)]
        exact ih (k + 1) A _ (by omega) (by omega) (kR2_s hR) w
  have hl1 : ∀ (n : Nat) (k : Int) (a : Nat → Int → Int), k + n = 60 * G → 0 ≤ k → kR1 ai a k → am_W (am_ev am_prog d) T_Mo_keepOld (fun v h' => v = none ∧ ∃ a', h' = HH L B1 B2 F a' aj ∧ kep ai a' G) (10, [some (.inr (.inr 126)), some (.inl k)], [], HH L B1 B2 F a aj) := by
    intro n
    induction n with
    | zero =>
      intro k a hk h0 hR
      have eG : am_fi (HH L B1 B2 F a aj) 94 126 = G := hFG
      refine am_W.br rfl rfl ⟨⟨trivial, okI rfl rfl rfl⟩, ⟨by omega, by omega⟩, by rw [eG]; exact ⟨by omega, by omega⟩⟩ (fun z => ?_) (fun z => absurd (by rw [eG]; omega) z)
      refine am_W.gp 41 rfl trivial ?_
      refine hl2 (3 * G).toNat 0 a a (by omega) (Int.le_refl 0) ⟨fun _ _ _ => rfl, fun i h0 h1 => absurd h1 (by omega)⟩ (fun a2 a3 h2 h3 => ?_)
      refine ⟨fun b hb => ?_, fun i i0 i1 => ?_, fun i i0 i1 => ?_, fun i i0 i1 => ?_⟩
      · rw [h3.1 b (by omega) (by omega), h2.1 b (by omega) (by omega), hR.1 b (by omega)]
      · rw [h3.1 164 (by decide) (by decide), h2.1 164 (by decide) (by decide)]
        exact hR.2 i i0 (by omega)
      · rw [h3.1 165 (by decide) (by decide), h3.1 166 (by decide) (by decide), ← hR.1 157 (by decide), ← hR.1 158 (by decide)]
        exact h2.2 i i0 i1
      · rw [← hR.1 159 (by decide), ← hR.1 163 (by decide), ← h2.1 159 (by decide) (by decide), ← h2.1 163 (by decide) (by decide)]
        exact h3.2 i i0 i1
    | succ n ih =>
      intro k a hk h0 hR
      have eG : am_fi (HH L B1 B2 F a aj) 94 126 = G := hFG
      have hbk := hb k
      rw [← hR.1 156 (by decide)] at hbk
      refine am_W.br rfl rfl ⟨⟨trivial, okI rfl rfl rfl⟩, ⟨by omega, by omega⟩, by rw [eG]; exact ⟨by omega, by omega⟩⟩ (fun z => absurd z (by rw [eG]; omega)) (fun z => ?_)
      refine am_W.gp 10 rfl ?_ ?_
      · simp only [HS, FRS]
        exact (by and_intros <;> first | trivial | exact okI rfl rfl rfl | (refine okrI rfl rfl rfl rfl ?_ ?_ <;> (first | omega | (simp only [HS, FRS, CCS, am_R] at *; omega))) | (refine okaI rfl rfl rfl rfl ?_ ?_ <;> (first | omega | (simp only [HS, FRS, CCS, am_R] at *; omega))) | (first | omega | (simp only [HS, FRS, CCS, am_R] at *; omega)) | (simp only [HS, FRS, CCS]))
      · simp only [HS, FRS]
        rw [u2_sa]
        exact ih (k + 1) _ (by omega) (by omega) (kR1_s hR)
  refine am_W.of rfl rfl ?_
  refine am_W.gp 10 rfl ⟨⟨trivial, okI rfl rfl rfl⟩, okI rfl rfl rfl⟩ ?_
  simp only [HS, FRS]
  rw [hG, hF]
  exact hl1 (60 * G).toNat 0 ai (by omega) (Int.le_refl 0) ⟨fun _ _ => rfl, fun i h0 h1 => absurd h1 (by omega)⟩
